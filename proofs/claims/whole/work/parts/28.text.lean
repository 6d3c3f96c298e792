theorem nI_or (a b : Nat) : nI a ||| nI b = nI (a ||| b) := by
  rw [← Int32.toBitVec_inj, Int32.toBitVec_or]
  show BitVec.ofNat 32 a ||| BitVec.ofNat 32 b = BitVec.ofNat 32 (a ||| b)
  apply BitVec.eq_of_toNat_eq
  rw [BitVec.toNat_or, BitVec.toNat_ofNat, BitVec.toNat_ofNat, BitVec.toNat_ofNat, Nat.or_mod_two_pow]
section CS8
variable {S : Type} {inv : jH → S → Prop} {own : Nat → Prop} {l : Launch} {G : jG} {Y : jY} {d bc bs pc : Nat} {ls : List (Option Value)} {st : List Value} {σ : S} {P : jO → S → Prop}
theorem C_ishl8 {a : Int} (hd : decode Y.1.2.1 pc = .ok (.ishl, 1)) (h0 : 0 ≤ a) (h1 : a < 4194304) (k : CJ inv own l G Y d bc bs (pc + 1) ls (vi (a * 256) :: st) σ P) : CJ inv own l G Y d bc bs pc ls (vi 8 :: vi a :: st) σ P := by
  refine C_ishl hd ?_
  have e : Int32.ofInt a <<< (Int32.ofInt 8 &&& 31) = Int32.ofInt (a * 256) := by
    have e1 : Int32.ofInt a = nI a.toNat := by rw [iz_nI]; congr 1; omega
    rw [e1, pk_shlN (Int32.ofInt 8 &&& 31) 8 (by decide) (by omega), iz_nI]
    congr 1; omega
  rw [e]; exact k
theorem C_ior8 {a b : Int} (hd : decode Y.1.2.1 pc = .ok (.ior, 1)) (h0 : 0 ≤ a) (h1 : a < 4194304) (h2 : 0 ≤ b) (h3 : b < 256) (k : CJ inv own l G Y d bc bs (pc + 1) ls (vi (a * 256 + b) :: st) σ P) : CJ inv own l G Y d bc bs pc ls (vi b :: vi (a * 256) :: st) σ P := by
  refine C_ior hd ?_
  have e : Int32.ofInt (a * 256) ||| Int32.ofInt b = Int32.ofInt (a * 256 + b) := by
    have e1 : Int32.ofInt (a * 256) = nI (a.toNat * 256) := by rw [iz_nI]; congr 1; omega
    have e2 : Int32.ofInt b = nI b.toNat := by rw [iz_nI]; congr 1; omega
    have e3 : Int32.ofInt (a * 256 + b) = nI (a.toNat * 256 + b.toNat) := by rw [iz_nI]; congr 1; omega
    rw [e1, e2, e3]
    have hb : b.toNat < 2 ^ 8 := by omega
    have := Nat.two_pow_add_eq_or_of_lt hb a.toNat
    rw [Nat.mul_comm] at this
    rw [this]
    exact nI_or _ _
  rw [e]; exact k
end CS8
def c_xsize (σ : cS) (x : Nat) : Int := (σ.1 (x + 1)).length
theorem t_xsize {l : Launch} {G : jG} {d : Nat} {σ : cS} {x : Nat} (hw : wf σ) (hd : 1 ≤ d) (hx : kd x = 5) : CJ jCls jown l G (Yx mX5_size) d 0 0 0 [some (.ref x)] [] σ (det (some (vi (c_xsize σ x))) σ) := by
  refine C_aload_n dX5_size_0 rfl ?_
  refine C_get dX5_size_1 f_X5_14 (fun h hc => ⟨_, hc.2.2.2.2.1 _ hx, rfl⟩) ?_
  refine D_callV (As := []) (d' := 0) (row_size hw (kX1 hx)) dX5_size_4 v_X5_36 (fun h hc => ⟨_, (hc.1 _ (kX1 hx)).1⟩) rfl (Nat.le_of_ble_eq_true rfl) (by omega) (Nat.le_of_ble_eq_true rfl) ?_
  simp only [Option.toList, List.nil_append, List.cons_append]
  have r_4 := hw.len (kX1 hx)
  refine C_iret dX5_size_7 rfl ?_
  unfold det; rw [c_xsize]; exact ⟨rfl, rfl⟩
theorem r_xsize {σ : cS} {x : Nat} (hw : wf σ) (hx : kd x = 5) : 0 ≤ (c_xsize σ x) ∧ (c_xsize σ x) < 2001 := by
  unfold c_xsize
  have r_4 := hw.len (kX1 hx)
  omega
def c_xadd (σ : cS) (x : Nat) (v : Int) : cS := (cadd σ (x + 1) v)
theorem t_xadd {l : Launch} {G : jG} {d : Nat} {σ : cS} {x : Nat} {v : Int} (hw : wf σ) (hd : 1 ≤ d) (hx : kd x = 5) (hv : -3000 ≤ v ∧ v < 100000000) : CJ jCls jown l G (Yx mX5_add) d 0 0 0 [some (.ref x), some (vi v)] [] σ (det none (c_xadd σ x v)) := by
  refine C_aload_n dX5_add_0 rfl ?_
  refine C_get dX5_add_1 f_X5_14 (fun h hc => ⟨_, hc.2.2.2.2.1 _ hx, rfl⟩) ?_
  refine C_iload_n dX5_add_4 rfl ?_
  refine D_callV (As := [vi _]) (d' := 0) (row_add hw (kX1 hx) (by omega)) dX5_add_5 v_X5_40 (fun h hc => ⟨_, (hc.1 _ (kX1 hx)).1⟩) rfl (Nat.le_of_ble_eq_true rfl) (by omega) (Nat.le_of_ble_eq_true rfl) ?_
  simp only [Option.toList, List.nil_append, List.cons_append]
  have hw1 : wf (cadd σ (x + 1) v) := wf_add hw (by omega)
  refine C_vret dX5_add_8 rfl ⟨rfl, ?_⟩
  rw [c_xadd]
theorem w_xadd {σ : cS} {x : Nat} {v : Int} (hw : wf σ) (hx : kd x = 5) (hv : -3000 ≤ v ∧ v < 100000000) : wf (c_xadd σ x v) := by
  unfold c_xadd
  have hw1 : wf (cadd σ (x + 1) v) := wf_add hw (by omega)
  exact hw1
theorem i_xadd {σ : cS} {x : Nat} {v : Int} : (c_xadd σ x v).2 = σ.2 := by
  unfold c_xadd
  (repeat' split) <;> simp [cadd, cput, cemp, i_addCharacter, i_addComponent, i_addElement, i_addSegment, i_eempty, i_finish, i_judgeMessageN, i_note, i_pempty, i_tadd]
def c_xempty (σ : cS) (x : Nat) : cS := (cemp σ (x + 1))
theorem t_xempty {l : Launch} {G : jG} {d : Nat} {σ : cS} {x : Nat} (hw : wf σ) (hd : 1 ≤ d) (hx : kd x = 5) : CJ jCls jown l G (Yx mX5_empty) d 0 0 0 [some (.ref x)] [] σ (det none (c_xempty σ x)) := by
  refine C_aload_n dX5_empty_0 rfl ?_
  refine C_get dX5_empty_1 f_X5_14 (fun h hc => ⟨_, hc.2.2.2.2.1 _ hx, rfl⟩) ?_
  refine D_callV (As := []) (d' := 0) (row_empty hw (kX1 hx)) dX5_empty_4 v_X5_43 (fun h hc => ⟨_, (hc.1 _ (kX1 hx)).1⟩) rfl (Nat.le_of_ble_eq_true rfl) (by omega) (Nat.le_of_ble_eq_true rfl) ?_
  simp only [Option.toList, List.nil_append, List.cons_append]
  have hw1 : wf (cemp σ (x + 1)) := wf_emp hw
  refine C_vret dX5_empty_7 rfl ⟨rfl, ?_⟩
  rw [c_xempty]
theorem w_xempty {σ : cS} {x : Nat} (hw : wf σ) (hx : kd x = 5) : wf (c_xempty σ x) := by
  unfold c_xempty
  have hw1 : wf (cemp σ (x + 1)) := wf_emp hw
  exact hw1
theorem i_xempty {σ : cS} {x : Nat} : (c_xempty σ x).2 = σ.2 := by
  unfold c_xempty
  (repeat' split) <;> simp [cadd, cput, cemp, i_addCharacter, i_addComponent, i_addElement, i_addSegment, i_eempty, i_finish, i_judgeMessageN, i_note, i_pempty, i_tadd, i_xadd]
def c_canBeMark (σ : cS) (c : Int) : Bool := (if c = (-1) then false else (if c = 32 then false else (if (c_isDigit σ c) = true then false else (if (c_isCapital σ c) = true then false else (if c < 97 then true else (if c ≤ 122 then false else true))))))
theorem t_canBeMark {l : Launch} {G : jG} {d : Nat} {σ : cS} {c : Int} (hw : wf σ) (hd : 1 ≤ d) (hc : rg c) : CJ jCls jown l G (Yx mX5_canBeMark) d 0 0 0 [some (vi c)] [] σ (det (some (vi (bz (c_canBeMark σ c)))) σ) := by
  refine C_iload_n dX5_canBeMark_0 rfl ?_
  refine C_iconst dX5_canBeMark_1 ?_
  refine C_icmp_eq (tgt := 41) dX5_canBeMark_2 (by decide) (by omega) (by omega) (fun c_2 => ?_) (fun c_2 => ?_)
  · refine C_iconst dX5_canBeMark_41 ?_
    refine C_zret dX5_canBeMark_42 rfl (by first | exact Or.inl rfl | exact Or.inr rfl | exact bz_01 _) ?_
    unfold det; rw [c_canBeMark, if_pos (by omega)]; exact ⟨rfl, rfl⟩
  · refine C_iload_n dX5_canBeMark_5 rfl ?_
    refine C_bipush dX5_canBeMark_6 (by decide) ?_
    refine C_icmp_eq (tgt := 41) dX5_canBeMark_8 (by decide) (by omega) (by omega) (fun c_8 => ?_) (fun c_8 => ?_)
    · refine C_iconst dX5_canBeMark_41 ?_
      refine C_zret dX5_canBeMark_42 rfl (by first | exact Or.inl rfl | exact Or.inr rfl | exact bz_01 _) ?_
      unfold det; rw [c_canBeMark, if_neg (by omega), if_pos (by omega)]; exact ⟨rfl, rfl⟩
    · refine C_iload_n dX5_canBeMark_11 rfl ?_
      refine D_callSN (As := [vi _]) (d' := 0) (t_isDigit hw (Nat.le_refl _) (by omega)) dX5_canBeMark_12 s_X5_71 rfl (Nat.le_of_ble_eq_true rfl) (by omega) (Nat.le_of_ble_eq_true rfl) ?_
      simp only [Option.toList, List.nil_append, List.cons_append]
      refine C_if_neZ (tgt := 41) dX5_canBeMark_15 (by decide) (fun c_15 => ?_) (fun c_15 => ?_)
      · have b_15_3 := isDigit_t (σ := _) (c := c) (by assumption)
        refine C_iconst dX5_canBeMark_41 ?_
        refine C_zret dX5_canBeMark_42 rfl (by first | exact Or.inl rfl | exact Or.inr rfl | exact bz_01 _) ?_
        unfold det; rw [c_canBeMark, if_neg (by omega), if_neg (by omega), if_pos c_15]; exact ⟨rfl, rfl⟩
      · refine C_iload_n dX5_canBeMark_18 rfl ?_
        refine D_callSN (As := [vi _]) (d' := 0) (t_isCapital hw (Nat.le_refl _) (by omega)) dX5_canBeMark_19 s_X5_74 rfl (Nat.le_of_ble_eq_true rfl) (by omega) (Nat.le_of_ble_eq_true rfl) ?_
        simp only [Option.toList, List.nil_append, List.cons_append]
        refine C_if_neZ (tgt := 41) dX5_canBeMark_22 (by decide) (fun c_22 => ?_) (fun c_22 => ?_)
        · have b_22_4 := isCapital_t (σ := _) (c := c) (by assumption)
          refine C_iconst dX5_canBeMark_41 ?_
          refine C_zret dX5_canBeMark_42 rfl (by first | exact Or.inl rfl | exact Or.inr rfl | exact bz_01 _) ?_
          unfold det; rw [c_canBeMark, if_neg (by omega), if_neg (by omega), if_neg (by rw [c_15]; decide), if_pos c_22]; exact ⟨rfl, rfl⟩
        · refine C_iload_n dX5_canBeMark_25 rfl ?_
          refine C_bipush dX5_canBeMark_26 (by decide) ?_
          refine C_icmp_lt (tgt := 37) dX5_canBeMark_28 (by decide) (by omega) (by omega) (fun c_28 => ?_) (fun c_28 => ?_)
          · refine C_iconst dX5_canBeMark_37 ?_
            refine C_goto (tgt := 42) dX5_canBeMark_38 (by decide) ?_
            refine C_zret dX5_canBeMark_42 rfl (by first | exact Or.inl rfl | exact Or.inr rfl | exact bz_01 _) ?_
            unfold det; rw [c_canBeMark, if_neg (by omega), if_neg (by omega), if_neg (by rw [c_15]; decide), if_neg (by rw [c_22]; decide), if_pos (by omega)]; exact ⟨rfl, rfl⟩
          · refine C_iload_n dX5_canBeMark_31 rfl ?_
            refine C_bipush dX5_canBeMark_32 (by decide) ?_
            refine C_icmp_le (tgt := 41) dX5_canBeMark_34 (by decide) (by omega) (by omega) (fun c_34 => ?_) (fun c_34 => ?_)
            · refine C_iconst dX5_canBeMark_41 ?_
              refine C_zret dX5_canBeMark_42 rfl (by first | exact Or.inl rfl | exact Or.inr rfl | exact bz_01 _) ?_
              unfold det; rw [c_canBeMark, if_neg (by omega), if_neg (by omega), if_neg (by rw [c_15]; decide), if_neg (by rw [c_22]; decide), if_neg (by omega), if_pos (by omega)]; exact ⟨rfl, rfl⟩
            · refine C_iconst dX5_canBeMark_37 ?_
              refine C_goto (tgt := 42) dX5_canBeMark_38 (by decide) ?_
              refine C_zret dX5_canBeMark_42 rfl (by first | exact Or.inl rfl | exact Or.inr rfl | exact bz_01 _) ?_
              unfold det; rw [c_canBeMark, if_neg (by omega), if_neg (by omega), if_neg (by rw [c_15]; decide), if_neg (by rw [c_22]; decide), if_neg (by omega), if_neg (by omega)]; exact ⟨rfl, rfl⟩
def c_takeChoice (σ : cS) (x : Nat) (c : Int) : Bool × cS := (if (σ.2.1 x 1) = 3 then ((c_canBeMark (cI σ x 2 c) c), (cI σ x 2 c)) else (if (σ.2.1 x 1) = 4 then (if (c_canBeMark (cI σ x 3 c) c) = true then (if c = (σ.2.1 x 2) then (false, (cI σ x 3 c)) else (true, (cI σ x 3 c))) else (false, (cI σ x 3 c))) else (if (σ.2.1 x 1) = 5 then (if c = (-1) then (false, σ) else (true, σ)) else (if (σ.2.1 x 1) = 6 then (if c = 32 then (true, (cI σ x 4 0)) else (if (c_canBeMark (cI σ x 4 c) c) = true then (if c = (σ.2.1 x 2) then (false, (cI σ x 4 c)) else (if c = (σ.2.1 x 3) then (false, (cI σ x 4 c)) else (true, (cI σ x 4 c)))) else (false, (cI σ x 4 c)))) else (if (σ.2.1 x 1) = 7 then (if c = 32 then (true, σ) else (false, σ)) else (if (c_canBeMark (cI σ x 5 c) c) = true then (if c = (σ.2.1 x 2) then (false, (cI σ x 5 c)) else (if c = (σ.2.1 x 3) then (false, (cI σ x 5 c)) else (if c = (σ.2.1 x 4) then (false, (cI σ x 5 c)) else (true, (cI σ x 5 c))))) else (false, (cI σ x 5 c))))))))
theorem t_takeChoice {l : Launch} {G : jG} {d : Nat} {σ : cS} {x : Nat} {c : Int} (hw : wf σ) (hd : 2 ≤ d) (hx : kd x = 5) (hc : -3000 ≤ c ∧ c < 100000000) : CJ jCls jown l G (Yx mX5_takeChoice) d 0 0 0 [some (.ref x), some (vi c)] [] σ (det (some (vi (bz (c_takeChoice σ x c).1))) (c_takeChoice σ x c).2) := by
  refine C_aload_n dX5_takeChoice_0 rfl ?_
  refine C_get dX5_takeChoice_1 f_X5_20 (fun h hc => ⟨_, hc.2.2.2.2.1 _ hx, rfl⟩) ?_
  have g_1 := hw.2.2.1 x 1
  by_cases c_4_3 : (σ.2.1 x 1) = 3
  · refine C_tableIn (off := 36) (tgt := 40) dX5_takeChoice_4 (by omega) (by omega) (by omega) (by rw [c_4_3]; rfl) (by decide) ?_
    refine C_aload_n dX5_takeChoice_40 rfl ?_
    refine C_iload_n dX5_takeChoice_41 rfl ?_
    refine C_put (σ' := (cI σ x 2 c)) dX5_takeChoice_42 f_X5_24 jfit_i (ownX hx) (fun h hc => hc.putX2 hx) ?_
    have hw1 : wf (cI σ x 2 c) := wf_I hw (by omega)
    refine C_iload_n dX5_takeChoice_45 rfl ?_
    refine D_callS (As := [vi _]) (d' := 1) (t_canBeMark hw1 (Nat.le_refl _) (by omega)) dX5_takeChoice_46 s_X5_68 rfl (Nat.le_of_ble_eq_true rfl) (by omega) (Nat.le_of_ble_eq_true rfl) ?_
    simp only [Option.toList, List.nil_append, List.cons_append]
    refine C_zret dX5_takeChoice_49 rfl (by first | exact Or.inl rfl | exact Or.inr rfl | exact bz_01 _) ?_
    unfold det; rw [c_takeChoice, if_pos (by omega)]; exact ⟨rfl, rfl⟩
  by_cases c_4_4 : (σ.2.1 x 1) = 4
  · refine C_tableIn (off := 46) (tgt := 50) dX5_takeChoice_4 (by omega) (by omega) (by omega) (by rw [c_4_4]; rfl) (by decide) ?_
    refine C_aload_n dX5_takeChoice_50 rfl ?_
    refine C_iload_n dX5_takeChoice_51 rfl ?_
    refine C_put (σ' := (cI σ x 3 c)) dX5_takeChoice_52 f_X5_27 jfit_i (ownX hx) (fun h hc => hc.putX3 hx) ?_
    have hw2 : wf (cI σ x 3 c) := wf_I hw (by omega)
    refine C_iload_n dX5_takeChoice_55 rfl ?_
    refine D_callS (As := [vi _]) (d' := 1) (t_canBeMark hw2 (Nat.le_refl _) (by omega)) dX5_takeChoice_56 s_X5_68 rfl (Nat.le_of_ble_eq_true rfl) (by omega) (Nat.le_of_ble_eq_true rfl) ?_
    simp only [Option.toList, List.nil_append, List.cons_append]
    refine C_if_eqZ (tgt := 74) dX5_takeChoice_59 (by decide) (fun c_59 => ?_) (fun c_59 => ?_)
    · refine C_iconst dX5_takeChoice_74 ?_
      refine C_zret dX5_takeChoice_75 rfl (by first | exact Or.inl rfl | exact Or.inr rfl | exact bz_01 _) ?_
      unfold det; rw [c_takeChoice, if_neg (by omega), if_pos (by omega), if_neg (by rw [c_59]; decide)]; exact ⟨rfl, rfl⟩
    · refine C_iload_n dX5_takeChoice_62 rfl ?_
      refine C_aload_n dX5_takeChoice_63 rfl ?_
      refine C_get (v := vi (σ.2.1 x 2)) dX5_takeChoice_64 f_X5_24 (fun h hc => ⟨_, hc.2.2.2.2.1 _ hx, congrArg (fun z => some (vi z)) (show ((cI σ x 3 c).2.1 x 2) = (σ.2.1 x 2) by simp [cI, upI, cadd, cput, cemp])⟩) ?_
      have g_64 := hw.2.2.1 x 2
      refine C_icmp_eq (tgt := 74) dX5_takeChoice_67 (by decide) (by omega) (by omega) (fun c_67 => ?_) (fun c_67 => ?_)
      · refine C_iconst dX5_takeChoice_74 ?_
        refine C_zret dX5_takeChoice_75 rfl (by first | exact Or.inl rfl | exact Or.inr rfl | exact bz_01 _) ?_
        unfold det; rw [c_takeChoice, if_neg (by omega), if_pos (by omega), if_pos c_59, if_pos (by omega)]; exact ⟨rfl, rfl⟩
      · refine C_iconst dX5_takeChoice_70 ?_
        refine C_goto (tgt := 75) dX5_takeChoice_71 (by decide) ?_
        refine C_zret dX5_takeChoice_75 rfl (by first | exact Or.inl rfl | exact Or.inr rfl | exact bz_01 _) ?_
        unfold det; rw [c_takeChoice, if_neg (by omega), if_pos (by omega), if_pos c_59, if_neg (by omega)]; exact ⟨rfl, rfl⟩
  by_cases c_4_5 : (σ.2.1 x 1) = 5
  · refine C_tableIn (off := 72) (tgt := 76) dX5_takeChoice_4 (by omega) (by omega) (by omega) (by rw [c_4_5]; rfl) (by decide) ?_
    refine C_iload_n dX5_takeChoice_76 rfl ?_
    refine C_iconst dX5_takeChoice_77 ?_
    refine C_icmp_eq (tgt := 85) dX5_takeChoice_78 (by decide) (by omega) (by omega) (fun c_78 => ?_) (fun c_78 => ?_)
    · refine C_iconst dX5_takeChoice_85 ?_
      refine C_zret dX5_takeChoice_86 rfl (by first | exact Or.inl rfl | exact Or.inr rfl | exact bz_01 _) ?_
      unfold det; rw [c_takeChoice, if_neg (by omega), if_neg (by omega), if_pos (by omega), if_pos (by omega)]; exact ⟨rfl, rfl⟩
    · refine C_iconst dX5_takeChoice_81 ?_
      refine C_goto (tgt := 86) dX5_takeChoice_82 (by decide) ?_
      refine C_zret dX5_takeChoice_86 rfl (by first | exact Or.inl rfl | exact Or.inr rfl | exact bz_01 _) ?_
      unfold det; rw [c_takeChoice, if_neg (by omega), if_neg (by omega), if_pos (by omega), if_neg (by omega)]; exact ⟨rfl, rfl⟩
  by_cases c_4_6 : (σ.2.1 x 1) = 6
  · refine C_tableIn (off := 83) (tgt := 87) dX5_takeChoice_4 (by omega) (by omega) (by omega) (by rw [c_4_6]; rfl) (by decide) ?_
    refine C_aload_n dX5_takeChoice_87 rfl ?_
    refine C_iload_n dX5_takeChoice_88 rfl ?_
    refine C_bipush dX5_takeChoice_89 (by decide) ?_
    refine C_icmp_ne (tgt := 98) dX5_takeChoice_91 (by decide) (by omega) (by omega) (fun c_91 => ?_) (fun c_91 => ?_)
    · refine C_iload_n dX5_takeChoice_98 rfl ?_
      refine C_put (σ' := (cI σ x 4 c)) dX5_takeChoice_99 f_X5_30 jfit_i (ownX hx) (fun h hc => hc.putX4 hx) ?_
      have hw7 : wf (cI σ x 4 c) := wf_I hw (by omega)
      refine C_iload_n dX5_takeChoice_102 rfl ?_
      refine C_bipush dX5_takeChoice_103 (by decide) ?_
      refine C_icmp_eq (tgt := 131) dX5_takeChoice_105 (by decide) (by omega) (by omega) (fun c_105 => absurd c_105 (by omega)) (fun c_105 => ?_)
      refine C_iload_n dX5_takeChoice_108 rfl ?_
      refine D_callS (As := [vi _]) (d' := 1) (t_canBeMark hw7 (Nat.le_refl _) (by omega)) dX5_takeChoice_109 s_X5_68 rfl (Nat.le_of_ble_eq_true rfl) (by omega) (Nat.le_of_ble_eq_true rfl) ?_
      simp only [Option.toList, List.nil_append, List.cons_append]
      refine C_if_eqZ (tgt := 135) dX5_takeChoice_112 (by decide) (fun c_112 => ?_) (fun c_112 => ?_)
      · refine C_iconst dX5_takeChoice_135 ?_
        refine C_zret dX5_takeChoice_136 rfl (by first | exact Or.inl rfl | exact Or.inr rfl | exact bz_01 _) ?_
        unfold det; rw [c_takeChoice, if_neg (by omega), if_neg (by omega), if_neg (by omega), if_pos (by omega), if_neg (by omega), if_neg (by rw [c_112]; decide)]; exact ⟨rfl, rfl⟩
      · refine C_iload_n dX5_takeChoice_115 rfl ?_
        refine C_aload_n dX5_takeChoice_116 rfl ?_
        refine C_get (v := vi (σ.2.1 x 2)) dX5_takeChoice_117 f_X5_24 (fun h hc => ⟨_, hc.2.2.2.2.1 _ hx, congrArg (fun z => some (vi z)) (show ((cI σ x 4 c).2.1 x 2) = (σ.2.1 x 2) by simp [cI, upI, cadd, cput, cemp])⟩) ?_
        have g_117 := hw.2.2.1 x 2
        refine C_icmp_eq (tgt := 135) dX5_takeChoice_120 (by decide) (by omega) (by omega) (fun c_120 => ?_) (fun c_120 => ?_)
        · refine C_iconst dX5_takeChoice_135 ?_
          refine C_zret dX5_takeChoice_136 rfl (by first | exact Or.inl rfl | exact Or.inr rfl | exact bz_01 _) ?_
          unfold det; rw [c_takeChoice, if_neg (by omega), if_neg (by omega), if_neg (by omega), if_pos (by omega), if_neg (by omega), if_pos c_112, if_pos (by omega)]; exact ⟨rfl, rfl⟩
        · refine C_iload_n dX5_takeChoice_123 rfl ?_
          refine C_aload_n dX5_takeChoice_124 rfl ?_
          refine C_get (v := vi (σ.2.1 x 3)) dX5_takeChoice_125 f_X5_27 (fun h hc => ⟨_, hc.2.2.2.2.1 _ hx, congrArg (fun z => some (vi z)) (show ((cI σ x 4 c).2.1 x 3) = (σ.2.1 x 3) by simp [cI, upI, cadd, cput, cemp])⟩) ?_
          have g_125 := hw.2.2.1 x 3
          refine C_icmp_eq (tgt := 135) dX5_takeChoice_128 (by decide) (by omega) (by omega) (fun c_128 => ?_) (fun c_128 => ?_)
          · refine C_iconst dX5_takeChoice_135 ?_
            refine C_zret dX5_takeChoice_136 rfl (by first | exact Or.inl rfl | exact Or.inr rfl | exact bz_01 _) ?_
            unfold det; rw [c_takeChoice, if_neg (by omega), if_neg (by omega), if_neg (by omega), if_pos (by omega), if_neg (by omega), if_pos c_112, if_neg (by omega), if_pos (by omega)]; exact ⟨rfl, rfl⟩
          · refine C_iconst dX5_takeChoice_131 ?_
            refine C_goto (tgt := 136) dX5_takeChoice_132 (by decide) ?_
            refine C_zret dX5_takeChoice_136 rfl (by first | exact Or.inl rfl | exact Or.inr rfl | exact bz_01 _) ?_
            unfold det; rw [c_takeChoice, if_neg (by omega), if_neg (by omega), if_neg (by omega), if_pos (by omega), if_neg (by omega), if_pos c_112, if_neg (by omega), if_neg (by omega)]; exact ⟨rfl, rfl⟩
    · refine C_iconst dX5_takeChoice_94 ?_
      refine C_goto (tgt := 99) dX5_takeChoice_95 (by decide) ?_
      refine C_put (σ' := (cI σ x 4 0)) dX5_takeChoice_99 f_X5_30 jfit_i (ownX hx) (fun h hc => hc.putX4 hx) ?_
      have hw12 : wf (cI σ x 4 0) := wf_I hw (by omega)
      refine C_iload_n dX5_takeChoice_102 rfl ?_
      refine C_bipush dX5_takeChoice_103 (by decide) ?_
      refine C_icmp_eq (tgt := 131) dX5_takeChoice_105 (by decide) (by omega) (by omega) (fun c_105 => ?_) (fun c_105 => absurd c_105 (by omega))
      refine C_iconst dX5_takeChoice_131 ?_
      refine C_goto (tgt := 136) dX5_takeChoice_132 (by decide) ?_
      refine C_zret dX5_takeChoice_136 rfl (by first | exact Or.inl rfl | exact Or.inr rfl | exact bz_01 _) ?_
      unfold det; rw [c_takeChoice, if_neg (by omega), if_neg (by omega), if_neg (by omega), if_pos (by omega), if_pos (by omega)]; exact ⟨rfl, rfl⟩
  by_cases c_4_7 : (σ.2.1 x 1) = 7
  · refine C_tableIn (off := 133) (tgt := 137) dX5_takeChoice_4 (by omega) (by omega) (by omega) (by rw [c_4_7]; rfl) (by decide) ?_
    refine C_iload_n dX5_takeChoice_137 rfl ?_
    refine C_bipush dX5_takeChoice_138 (by decide) ?_
    refine C_icmp_ne (tgt := 147) dX5_takeChoice_140 (by decide) (by omega) (by omega) (fun c_140 => ?_) (fun c_140 => ?_)
    · refine C_iconst dX5_takeChoice_147 ?_
      refine C_zret dX5_takeChoice_148 rfl (by first | exact Or.inl rfl | exact Or.inr rfl | exact bz_01 _) ?_
      unfold det; rw [c_takeChoice, if_neg (by omega), if_neg (by omega), if_neg (by omega), if_neg (by omega), if_pos (by omega), if_neg (by omega)]; exact ⟨rfl, rfl⟩
    · refine C_iconst dX5_takeChoice_143 ?_
      refine C_goto (tgt := 148) dX5_takeChoice_144 (by decide) ?_
      refine C_zret dX5_takeChoice_148 rfl (by first | exact Or.inl rfl | exact Or.inr rfl | exact bz_01 _) ?_
      unfold det; rw [c_takeChoice, if_neg (by omega), if_neg (by omega), if_neg (by omega), if_neg (by omega), if_pos (by omega), if_pos (by omega)]; exact ⟨rfl, rfl⟩
  refine C_tableOut (tgt := 149) dX5_takeChoice_4 (by omega) (by omega) (by decide) ?_
  refine C_aload_n dX5_takeChoice_149 rfl ?_
  refine C_iload_n dX5_takeChoice_150 rfl ?_
  refine C_put (σ' := (cI σ x 5 c)) dX5_takeChoice_151 f_X5_33 jfit_i (ownX hx) (fun h hc => hc.putX5 hx) ?_
  have hw15 : wf (cI σ x 5 c) := wf_I hw (by omega)
  refine C_iload_n dX5_takeChoice_154 rfl ?_
  refine D_callS (As := [vi _]) (d' := 1) (t_canBeMark hw15 (Nat.le_refl _) (by omega)) dX5_takeChoice_155 s_X5_68 rfl (Nat.le_of_ble_eq_true rfl) (by omega) (Nat.le_of_ble_eq_true rfl) ?_
  simp only [Option.toList, List.nil_append, List.cons_append]
  refine C_if_eqZ (tgt := 189) dX5_takeChoice_158 (by decide) (fun c_158 => ?_) (fun c_158 => ?_)
  · refine C_iconst dX5_takeChoice_189 ?_
    refine C_zret dX5_takeChoice_190 rfl (by first | exact Or.inl rfl | exact Or.inr rfl | exact bz_01 _) ?_
    unfold det; rw [c_takeChoice, if_neg (by omega), if_neg (by omega), if_neg (by omega), if_neg (by omega), if_neg (by omega), if_neg (by rw [c_158]; decide)]; exact ⟨rfl, rfl⟩
  · refine C_iload_n dX5_takeChoice_161 rfl ?_
    refine C_aload_n dX5_takeChoice_162 rfl ?_
    refine C_get (v := vi (σ.2.1 x 2)) dX5_takeChoice_163 f_X5_24 (fun h hc => ⟨_, hc.2.2.2.2.1 _ hx, congrArg (fun z => some (vi z)) (show ((cI σ x 5 c).2.1 x 2) = (σ.2.1 x 2) by simp [cI, upI, cadd, cput, cemp])⟩) ?_
    have g_163 := hw.2.2.1 x 2
    refine C_icmp_eq (tgt := 189) dX5_takeChoice_166 (by decide) (by omega) (by omega) (fun c_166 => ?_) (fun c_166 => ?_)
    · refine C_iconst dX5_takeChoice_189 ?_
      refine C_zret dX5_takeChoice_190 rfl (by first | exact Or.inl rfl | exact Or.inr rfl | exact bz_01 _) ?_
      unfold det; rw [c_takeChoice, if_neg (by omega), if_neg (by omega), if_neg (by omega), if_neg (by omega), if_neg (by omega), if_pos c_158, if_pos (by omega)]; exact ⟨rfl, rfl⟩
    · refine C_iload_n dX5_takeChoice_169 rfl ?_
      refine C_aload_n dX5_takeChoice_170 rfl ?_
      refine C_get (v := vi (σ.2.1 x 3)) dX5_takeChoice_171 f_X5_27 (fun h hc => ⟨_, hc.2.2.2.2.1 _ hx, congrArg (fun z => some (vi z)) (show ((cI σ x 5 c).2.1 x 3) = (σ.2.1 x 3) by simp [cI, upI, cadd, cput, cemp])⟩) ?_
      have g_171 := hw.2.2.1 x 3
      refine C_icmp_eq (tgt := 189) dX5_takeChoice_174 (by decide) (by omega) (by omega) (fun c_174 => ?_) (fun c_174 => ?_)
      · refine C_iconst dX5_takeChoice_189 ?_
        refine C_zret dX5_takeChoice_190 rfl (by first | exact Or.inl rfl | exact Or.inr rfl | exact bz_01 _) ?_
        unfold det; rw [c_takeChoice, if_neg (by omega), if_neg (by omega), if_neg (by omega), if_neg (by omega), if_neg (by omega), if_pos c_158, if_neg (by omega), if_pos (by omega)]; exact ⟨rfl, rfl⟩
      · refine C_iload_n dX5_takeChoice_177 rfl ?_
        refine C_aload_n dX5_takeChoice_178 rfl ?_
        refine C_get (v := vi (σ.2.1 x 4)) dX5_takeChoice_179 f_X5_30 (fun h hc => ⟨_, hc.2.2.2.2.1 _ hx, congrArg (fun z => some (vi z)) (show ((cI σ x 5 c).2.1 x 4) = (σ.2.1 x 4) by simp [cI, upI, cadd, cput, cemp])⟩) ?_
        have g_179 := hw.2.2.1 x 4
        refine C_icmp_eq (tgt := 189) dX5_takeChoice_182 (by decide) (by omega) (by omega) (fun c_182 => ?_) (fun c_182 => ?_)
        · refine C_iconst dX5_takeChoice_189 ?_
          refine C_zret dX5_takeChoice_190 rfl (by first | exact Or.inl rfl | exact Or.inr rfl | exact bz_01 _) ?_
          unfold det; rw [c_takeChoice, if_neg (by omega), if_neg (by omega), if_neg (by omega), if_neg (by omega), if_neg (by omega), if_pos c_158, if_neg (by omega), if_neg (by omega), if_pos (by omega)]; exact ⟨rfl, rfl⟩
        · refine C_iconst dX5_takeChoice_185 ?_
          refine C_goto (tgt := 190) dX5_takeChoice_186 (by decide) ?_
          refine C_zret dX5_takeChoice_190 rfl (by first | exact Or.inl rfl | exact Or.inr rfl | exact bz_01 _) ?_
          unfold det; rw [c_takeChoice, if_neg (by omega), if_neg (by omega), if_neg (by omega), if_neg (by omega), if_neg (by omega), if_pos c_158, if_neg (by omega), if_neg (by omega), if_neg (by omega)]; exact ⟨rfl, rfl⟩
theorem w_takeChoice {σ : cS} {x : Nat} {c : Int} (hw : wf σ) (hx : kd x = 5) (hc : -3000 ≤ c ∧ c < 100000000) : wf (c_takeChoice σ x c).2 := by
  unfold c_takeChoice
  split
  · have g_1 := hw.2.2.1 x 1
    have hw1 : wf (cI σ x 2 c) := wf_I hw (by omega)
    exact hw1
  · split
    · split
      · split
        · have g_1 := hw.2.2.1 x 1
          have hw2 : wf (cI σ x 3 c) := wf_I hw (by omega)
          have g_64 := hw.2.2.1 x 2
          exact hw2
        · have g_1 := hw.2.2.1 x 1
          have hw2 : wf (cI σ x 3 c) := wf_I hw (by omega)
          have g_64 := hw.2.2.1 x 2
          exact hw2
      · have g_1 := hw.2.2.1 x 1
        have hw2 : wf (cI σ x 3 c) := wf_I hw (by omega)
        exact hw2
    · split
      · split
        · have g_1 := hw.2.2.1 x 1
          exact hw
        · have g_1 := hw.2.2.1 x 1
          exact hw
      · split
        · split
          · have g_1 := hw.2.2.1 x 1
            have hw12 : wf (cI σ x 4 0) := wf_I hw (by omega)
            exact hw12
          · split
            · split
              · have g_1 := hw.2.2.1 x 1
                have hw7 : wf (cI σ x 4 c) := wf_I hw (by omega)
                have g_117 := hw.2.2.1 x 2
                exact hw7
              · split
                · have g_1 := hw.2.2.1 x 1
                  have hw7 : wf (cI σ x 4 c) := wf_I hw (by omega)
                  have g_117 := hw.2.2.1 x 2
                  have g_125 := hw.2.2.1 x 3
                  exact hw7
                · have g_1 := hw.2.2.1 x 1
                  have hw7 : wf (cI σ x 4 c) := wf_I hw (by omega)
                  have g_117 := hw.2.2.1 x 2
                  have g_125 := hw.2.2.1 x 3
                  exact hw7
            · have g_1 := hw.2.2.1 x 1
              have hw7 : wf (cI σ x 4 c) := wf_I hw (by omega)
              exact hw7
        · split
          · split
            · have g_1 := hw.2.2.1 x 1
              exact hw
            · have g_1 := hw.2.2.1 x 1
              exact hw
          · split
            · split
              · have g_1 := hw.2.2.1 x 1
                have hw15 : wf (cI σ x 5 c) := wf_I hw (by omega)
                have g_163 := hw.2.2.1 x 2
                exact hw15
              · split
                · have g_1 := hw.2.2.1 x 1
                  have hw15 : wf (cI σ x 5 c) := wf_I hw (by omega)
                  have g_163 := hw.2.2.1 x 2
                  have g_171 := hw.2.2.1 x 3
                  exact hw15
                · split
                  · have g_1 := hw.2.2.1 x 1
                    have hw15 : wf (cI σ x 5 c) := wf_I hw (by omega)
                    have g_163 := hw.2.2.1 x 2
                    have g_171 := hw.2.2.1 x 3
                    have g_179 := hw.2.2.1 x 4
                    exact hw15
                  · have g_1 := hw.2.2.1 x 1
                    have hw15 : wf (cI σ x 5 c) := wf_I hw (by omega)
                    have g_163 := hw.2.2.1 x 2
                    have g_171 := hw.2.2.1 x 3
                    have g_179 := hw.2.2.1 x 4
                    exact hw15
            · have g_1 := hw.2.2.1 x 1
              have hw15 : wf (cI σ x 5 c) := wf_I hw (by omega)
              exact hw15
theorem cI_at {σ : cS} {p k : Nat} {v : Int} : (cI σ p k v).2.1 p k = v := by simp [cI, upI]
theorem n_takeChoice {σ : cS} {x : Nat} {c : Int} : (c_takeChoice σ x c).2.2.1 x 1 = σ.2.1 x 1 := by
  unfold c_takeChoice
  (repeat' split) <;> simp [cI, upI]
def c_takeMarksL (x : Nat) : Nat → cS → Bool × cS
  | 0, σ => (false, σ)
  | fu + 1, σ => (if 9 ≤ (σ.2.1 x 1) then (true, σ) else (if (c_takeChoice σ x (rat (σ.1 (x + 1)) (σ.2.1 x 1))).1 = true then (c_takeMarksL x fu  (cI (c_takeChoice σ x (rat (σ.1 (x + 1)) (σ.2.1 x 1))).2 x 1 (((c_takeChoice σ x (rat (σ.1 (x + 1)) (σ.2.1 x 1))).2.2.1 x 1) + 1))) else (false, (c_takeChoice σ x (rat (σ.1 (x + 1)) (σ.2.1 x 1))).2)))
def c_takeMarks (σ : cS) (x : Nat) : Bool × cS := (if (rat (σ.1 (x + 1)) 0) = 85 then (if (rat (σ.1 (x + 1)) 1) = 78 then (if (rat (σ.1 (x + 1)) 2) = 65 then (c_takeMarksL x (7)  (cI σ x 1 3)) else (true, (cI (cI (cI (cI σ x 2 58) x 3 43) x 4 63) x 5 39))) else (true, (cI (cI (cI (cI σ x 2 58) x 3 43) x 4 63) x 5 39))) else (true, (cI (cI (cI (cI σ x 2 58) x 3 43) x 4 63) x 5 39)))
theorem t_takeMarksL {l : Launch} {G : jG} {d : Nat} {σ : cS} {x : Nat} (hw : wf σ) (hd : 3 ≤ d) (hx : kd x = 5) (fu : Nat)  (hv : σ.2.1 x 1 ≤ 9) (hm : 9 - σ.2.1 x 1 < (fu : Int)) : CJ jCls jown l G (Yx mX5_takeMarks) d 0 0 70 [some (.ref x)] [] σ (det (some (vi (bz (c_takeMarksL x fu  σ).1))) (c_takeMarksL x fu  σ).2) := by
  induction fu generalizing σ with
  | zero => exact absurd hm (by omega)
  | succ fu ih =>
    refine C_aload_n dX5_takeMarks_70 rfl ?_
    refine C_get dX5_takeMarks_71 f_X5_20 (fun h hc => ⟨_, hc.2.2.2.2.1 _ hx, rfl⟩) ?_
    have g_71 := hw.2.2.1 x 1
    refine C_bipush dX5_takeMarks_74 (by decide) ?_
    refine C_icmp_ge (tgt := 112) dX5_takeMarks_76 (by decide) (by omega) (by omega) (fun c_76 => ?_) (fun c_76 => ?_)
    · refine C_iconst dX5_takeMarks_112 ?_
      refine C_zret dX5_takeMarks_113 rfl (by first | exact Or.inl rfl | exact Or.inr rfl | exact bz_01 _) ?_
      unfold det; rw [c_takeMarksL, if_pos (by omega)]; exact ⟨rfl, rfl⟩
    · refine C_aload_n dX5_takeMarks_79 rfl ?_
      refine C_aload_n dX5_takeMarks_80 rfl ?_
      refine C_get dX5_takeMarks_81 f_X5_14 (fun h hc => ⟨_, hc.2.2.2.2.1 _ hx, rfl⟩) ?_
      refine C_aload_n dX5_takeMarks_84 rfl ?_
      refine C_get dX5_takeMarks_85 f_X5_20 (fun h hc => ⟨_, hc.2.2.2.2.1 _ hx, rfl⟩) ?_
      have g_85 := hw.2.2.1 x 1
      refine D_callV (As := [vi _]) (d' := 0) (row_at hw (kX1 hx) (by omega)) dX5_takeMarks_88 v_X5_60 (fun h hc => ⟨_, (hc.1 _ (kX1 hx)).1⟩) rfl (Nat.le_of_ble_eq_true rfl) (by omega) (Nat.le_of_ble_eq_true rfl) ?_
      simp only [Option.toList, List.nil_append, List.cons_append]
      have r_88 := hw.ra2 (kX1 hx) (σ.2.1 x 1)
      refine D_callV (As := [vi _]) (d' := 2) (t_takeChoice hw (Nat.le_refl _) hx (by omega)) dX5_takeMarks_91 v_X5_64 (fun h hc => ⟨_, hc.2.2.2.2.1 _ hx⟩) rfl (Nat.le_of_ble_eq_true rfl) (by omega) (Nat.le_of_ble_eq_true rfl) ?_
      simp only [Option.toList, List.nil_append, List.cons_append]
      have hw2 : wf (c_takeChoice σ x (rat (σ.1 (x + 1)) (σ.2.1 x 1))).2 := w_takeChoice hw hx (by omega)
      have q_91 := n_takeChoice (σ := σ) (x := x) (c := (rat (σ.1 (x + 1)) (σ.2.1 x 1)))
      refine C_if_neZ (tgt := 99) dX5_takeMarks_94 (by decide) (fun c_94 => ?_) (fun c_94 => ?_)
      · refine C_aload_n dX5_takeMarks_99 rfl ?_
        refine C_dup dX5_takeMarks_100 rfl ?_
        refine C_get dX5_takeMarks_101 f_X5_20 (fun h hc => ⟨_, hc.2.2.2.2.1 _ hx, rfl⟩) ?_
        have g_101 := hw2.2.2.1 x 1
        refine C_iconst dX5_takeMarks_104 ?_
        refine C_iadd dX5_takeMarks_105 ?_
        refine C_put (σ' := (cI (c_takeChoice σ x (rat (σ.1 (x + 1)) (σ.2.1 x 1))).2 x 1 (((c_takeChoice σ x (rat (σ.1 (x + 1)) (σ.2.1 x 1))).2.2.1 x 1) + 1))) dX5_takeMarks_106 f_X5_20 jfit_i (ownX hx) (fun h hc => hc.putX1 hx) ?_
        have hw4 : wf (cI (c_takeChoice σ x (rat (σ.1 (x + 1)) (σ.2.1 x 1))).2 x 1 (((c_takeChoice σ x (rat (σ.1 (x + 1)) (σ.2.1 x 1))).2.2.1 x 1) + 1)) := wf_I hw2 (by omega)
        refine C_goto (tgt := 70) dX5_takeMarks_109 (by decide) ?_
        rw [c_takeMarksL, if_neg (by omega), if_pos c_94]
        refine CJ.mono (ls' := [some (.ref x)]) (lsub_ok (by repeat (first | exact trivial | refine ⟨rfl, ?_⟩))) (fun _ _ q => q) ?_
        exact ih hw4  (by first | omega | (have g0 := hw4.2.2.1 x 1; omega) | (simp [cI, upI, i_addCharacter, i_addComponent, i_addElement, i_addSegment]; omega) | (simp [cI, upI, i_addCharacter, i_addComponent, i_addElement, i_addSegment]; done)) (by first | omega | (have g0 := hw4.2.2.1 x 1; omega) | (simp [cI, upI, i_addCharacter, i_addComponent, i_addElement, i_addSegment]; omega) | (simp [cI, upI, i_addCharacter, i_addComponent, i_addElement, i_addSegment]; done))
      · refine C_iconst dX5_takeMarks_97 ?_
        refine C_zret dX5_takeMarks_98 rfl (by first | exact Or.inl rfl | exact Or.inr rfl | exact bz_01 _) ?_
        unfold det; rw [c_takeMarksL, if_neg (by omega), if_neg (by rw [c_94]; decide)]; exact ⟨rfl, rfl⟩
theorem t_takeMarks {l : Launch} {G : jG} {d : Nat} {σ : cS} {x : Nat} (hw : wf σ) (hd : 3 ≤ d) (hx : kd x = 5) (hv : σ.2.1 x 1 ≤ 9) : CJ jCls jown l G (Yx mX5_takeMarks) d 0 0 0 [some (.ref x)] [] σ (det (some (vi (bz (c_takeMarks σ x).1))) (c_takeMarks σ x).2) := by
  refine C_aload_n dX5_takeMarks_0 rfl ?_
  refine C_get dX5_takeMarks_1 f_X5_14 (fun h hc => ⟨_, hc.2.2.2.2.1 _ hx, rfl⟩) ?_
  refine C_iconst dX5_takeMarks_4 ?_
  refine D_callV (As := [vi _]) (d' := 0) (row_at hw (kX1 hx) (by omega)) dX5_takeMarks_5 v_X5_60 (fun h hc => ⟨_, (hc.1 _ (kX1 hx)).1⟩) rfl (Nat.le_of_ble_eq_true rfl) (by omega) (Nat.le_of_ble_eq_true rfl) ?_
  simp only [Option.toList, List.nil_append, List.cons_append]
  have r_5 := hw.ra2 (kX1 hx) 0
  refine C_bipush dX5_takeMarks_8 (by decide) ?_
  refine C_icmp_ne (tgt := 39) dX5_takeMarks_10 (by decide) (by omega) (by omega) (fun c_10 => ?_) (fun c_10 => ?_)
  · refine C_aload_n dX5_takeMarks_39 rfl ?_
    refine C_bipush dX5_takeMarks_40 (by decide) ?_
    refine C_put (σ' := (cI σ x 2 58)) dX5_takeMarks_42 f_X5_24 jfit_i (ownX hx) (fun h hc => hc.putX2 hx) ?_
    have hw2 : wf (cI σ x 2 58) := wf_I hw (by omega)
    refine C_aload_n dX5_takeMarks_45 rfl ?_
    refine C_bipush dX5_takeMarks_46 (by decide) ?_
    refine C_put (σ' := (cI (cI σ x 2 58) x 3 43)) dX5_takeMarks_48 f_X5_27 jfit_i (ownX hx) (fun h hc => hc.putX3 hx) ?_
    have hw3 : wf (cI (cI σ x 2 58) x 3 43) := wf_I hw2 (by omega)
    refine C_aload_n dX5_takeMarks_51 rfl ?_
    refine C_bipush dX5_takeMarks_52 (by decide) ?_
    refine C_put (σ' := (cI (cI (cI σ x 2 58) x 3 43) x 4 63)) dX5_takeMarks_54 f_X5_30 jfit_i (ownX hx) (fun h hc => hc.putX4 hx) ?_
    have hw4 : wf (cI (cI (cI σ x 2 58) x 3 43) x 4 63) := wf_I hw3 (by omega)
    refine C_aload_n dX5_takeMarks_57 rfl ?_
    refine C_bipush dX5_takeMarks_58 (by decide) ?_
    refine C_put (σ' := (cI (cI (cI (cI σ x 2 58) x 3 43) x 4 63) x 5 39)) dX5_takeMarks_60 f_X5_33 jfit_i (ownX hx) (fun h hc => hc.putX5 hx) ?_
    have hw5 : wf (cI (cI (cI (cI σ x 2 58) x 3 43) x 4 63) x 5 39) := wf_I hw4 (by omega)
    refine C_iconst dX5_takeMarks_63 ?_
    refine C_zret dX5_takeMarks_64 rfl (by first | exact Or.inl rfl | exact Or.inr rfl | exact bz_01 _) ?_
    unfold det; rw [c_takeMarks, if_neg (by omega)]; exact ⟨rfl, rfl⟩
  · refine C_aload_n dX5_takeMarks_13 rfl ?_
    refine C_get dX5_takeMarks_14 f_X5_14 (fun h hc => ⟨_, hc.2.2.2.2.1 _ hx, rfl⟩) ?_
    refine C_iconst dX5_takeMarks_17 ?_
    refine D_callV (As := [vi _]) (d' := 0) (row_at hw (kX1 hx) (by omega)) dX5_takeMarks_18 v_X5_60 (fun h hc => ⟨_, (hc.1 _ (kX1 hx)).1⟩) rfl (Nat.le_of_ble_eq_true rfl) (by omega) (Nat.le_of_ble_eq_true rfl) ?_
    simp only [Option.toList, List.nil_append, List.cons_append]
    have r_18 := hw.ra2 (kX1 hx) 1
    refine C_bipush dX5_takeMarks_21 (by decide) ?_
    refine C_icmp_ne (tgt := 39) dX5_takeMarks_23 (by decide) (by omega) (by omega) (fun c_23 => ?_) (fun c_23 => ?_)
    · refine C_aload_n dX5_takeMarks_39 rfl ?_
      refine C_bipush dX5_takeMarks_40 (by decide) ?_
      refine C_put (σ' := (cI σ x 2 58)) dX5_takeMarks_42 f_X5_24 jfit_i (ownX hx) (fun h hc => hc.putX2 hx) ?_
      have hw7 : wf (cI σ x 2 58) := wf_I hw (by omega)
      refine C_aload_n dX5_takeMarks_45 rfl ?_
      refine C_bipush dX5_takeMarks_46 (by decide) ?_
      refine C_put (σ' := (cI (cI σ x 2 58) x 3 43)) dX5_takeMarks_48 f_X5_27 jfit_i (ownX hx) (fun h hc => hc.putX3 hx) ?_
      have hw8 : wf (cI (cI σ x 2 58) x 3 43) := wf_I hw7 (by omega)
      refine C_aload_n dX5_takeMarks_51 rfl ?_
      refine C_bipush dX5_takeMarks_52 (by decide) ?_
      refine C_put (σ' := (cI (cI (cI σ x 2 58) x 3 43) x 4 63)) dX5_takeMarks_54 f_X5_30 jfit_i (ownX hx) (fun h hc => hc.putX4 hx) ?_
      have hw9 : wf (cI (cI (cI σ x 2 58) x 3 43) x 4 63) := wf_I hw8 (by omega)
      refine C_aload_n dX5_takeMarks_57 rfl ?_
      refine C_bipush dX5_takeMarks_58 (by decide) ?_
      refine C_put (σ' := (cI (cI (cI (cI σ x 2 58) x 3 43) x 4 63) x 5 39)) dX5_takeMarks_60 f_X5_33 jfit_i (ownX hx) (fun h hc => hc.putX5 hx) ?_
      have hw10 : wf (cI (cI (cI (cI σ x 2 58) x 3 43) x 4 63) x 5 39) := wf_I hw9 (by omega)
      refine C_iconst dX5_takeMarks_63 ?_
      refine C_zret dX5_takeMarks_64 rfl (by first | exact Or.inl rfl | exact Or.inr rfl | exact bz_01 _) ?_
      unfold det; rw [c_takeMarks, if_pos (by omega), if_neg (by omega)]; exact ⟨rfl, rfl⟩
    · refine C_aload_n dX5_takeMarks_26 rfl ?_
      refine C_get dX5_takeMarks_27 f_X5_14 (fun h hc => ⟨_, hc.2.2.2.2.1 _ hx, rfl⟩) ?_
      refine C_iconst dX5_takeMarks_30 ?_
      refine D_callV (As := [vi _]) (d' := 0) (row_at hw (kX1 hx) (by omega)) dX5_takeMarks_31 v_X5_60 (fun h hc => ⟨_, (hc.1 _ (kX1 hx)).1⟩) rfl (Nat.le_of_ble_eq_true rfl) (by omega) (Nat.le_of_ble_eq_true rfl) ?_
      simp only [Option.toList, List.nil_append, List.cons_append]
      have r_31 := hw.ra2 (kX1 hx) 2
      refine C_bipush dX5_takeMarks_34 (by decide) ?_
      refine C_icmp_eq (tgt := 65) dX5_takeMarks_36 (by decide) (by omega) (by omega) (fun c_36 => ?_) (fun c_36 => ?_)
      · refine C_aload_n dX5_takeMarks_65 rfl ?_
        refine C_iconst dX5_takeMarks_66 ?_
        refine C_put (σ' := (cI σ x 1 3)) dX5_takeMarks_67 f_X5_20 jfit_i (ownX hx) (fun h hc => hc.putX1 hx) ?_
        have hw12 : wf (cI σ x 1 3) := wf_I hw (by omega)
        rw [c_takeMarks, if_pos (by omega), if_pos (by omega), if_pos (by omega)]
        refine CJ.mono (ls' := [some (.ref x)]) (lsub_ok (by repeat (first | exact trivial | refine ⟨rfl, ?_⟩))) (fun _ _ q => q) ?_
        exact t_takeMarksL hw12 hd hx (7)  (by first | omega | (have g0 := hw12.2.2.1 x 1; omega) | (simp [cI, upI, i_addCharacter, i_addComponent, i_addElement, i_addSegment]; omega) | (simp [cI, upI, i_addCharacter, i_addComponent, i_addElement, i_addSegment]; done)) (by first | omega | (have g0 := hw12.2.2.1 x 1; omega) | (simp [cI, upI, i_addCharacter, i_addComponent, i_addElement, i_addSegment]; omega) | (simp [cI, upI, i_addCharacter, i_addComponent, i_addElement, i_addSegment]; done))
      · refine C_aload_n dX5_takeMarks_39 rfl ?_
        refine C_bipush dX5_takeMarks_40 (by decide) ?_
        refine C_put (σ' := (cI σ x 2 58)) dX5_takeMarks_42 f_X5_24 jfit_i (ownX hx) (fun h hc => hc.putX2 hx) ?_
        have hw13 : wf (cI σ x 2 58) := wf_I hw (by omega)
        refine C_aload_n dX5_takeMarks_45 rfl ?_
        refine C_bipush dX5_takeMarks_46 (by decide) ?_
        refine C_put (σ' := (cI (cI σ x 2 58) x 3 43)) dX5_takeMarks_48 f_X5_27 jfit_i (ownX hx) (fun h hc => hc.putX3 hx) ?_
        have hw14 : wf (cI (cI σ x 2 58) x 3 43) := wf_I hw13 (by omega)
        refine C_aload_n dX5_takeMarks_51 rfl ?_
        refine C_bipush dX5_takeMarks_52 (by decide) ?_
        refine C_put (σ' := (cI (cI (cI σ x 2 58) x 3 43) x 4 63)) dX5_takeMarks_54 f_X5_30 jfit_i (ownX hx) (fun h hc => hc.putX4 hx) ?_
        have hw15 : wf (cI (cI (cI σ x 2 58) x 3 43) x 4 63) := wf_I hw14 (by omega)
        refine C_aload_n dX5_takeMarks_57 rfl ?_
        refine C_bipush dX5_takeMarks_58 (by decide) ?_
        refine C_put (σ' := (cI (cI (cI (cI σ x 2 58) x 3 43) x 4 63) x 5 39)) dX5_takeMarks_60 f_X5_33 jfit_i (ownX hx) (fun h hc => hc.putX5 hx) ?_
        have hw16 : wf (cI (cI (cI (cI σ x 2 58) x 3 43) x 4 63) x 5 39) := wf_I hw15 (by omega)
        refine C_iconst dX5_takeMarks_63 ?_
        refine C_zret dX5_takeMarks_64 rfl (by first | exact Or.inl rfl | exact Or.inr rfl | exact bz_01 _) ?_
        unfold det; rw [c_takeMarks, if_pos (by omega), if_pos (by omega), if_neg (by omega)]; exact ⟨rfl, rfl⟩
theorem w_takeMarksL {σ : cS} {x : Nat} (hw : wf σ) (hx : kd x = 5) (fu : Nat)  (hv : σ.2.1 x 1 ≤ 9) : wf (c_takeMarksL x fu  σ).2 := by
  induction fu generalizing σ with
  | zero => exact hw
  | succ fu ih =>
    unfold c_takeMarksL
    split
    · have g_71 := hw.2.2.1 x 1
      exact hw
    · split
      · have g_71 := hw.2.2.1 x 1
        have g_85 := hw.2.2.1 x 1
        have r_88 := hw.ra2 (kX1 hx) (σ.2.1 x 1)
        have hw2 : wf (c_takeChoice σ x (rat (σ.1 (x + 1)) (σ.2.1 x 1))).2 := w_takeChoice hw hx (by omega)
        have q_91 := n_takeChoice (σ := σ) (x := x) (c := (rat (σ.1 (x + 1)) (σ.2.1 x 1)))
        have g_101 := hw2.2.2.1 x 1
        have hw4 : wf (cI (c_takeChoice σ x (rat (σ.1 (x + 1)) (σ.2.1 x 1))).2 x 1 (((c_takeChoice σ x (rat (σ.1 (x + 1)) (σ.2.1 x 1))).2.2.1 x 1) + 1)) := wf_I hw2 (by omega)
        exact ih hw4  (by first | omega | (have g0 := hw4.2.2.1 x 1; omega) | (simp [cI, upI, i_addCharacter, i_addComponent, i_addElement, i_addSegment]; omega) | (simp [cI, upI, i_addCharacter, i_addComponent, i_addElement, i_addSegment]; done))
      · have g_71 := hw.2.2.1 x 1
        have g_85 := hw.2.2.1 x 1
        have r_88 := hw.ra2 (kX1 hx) (σ.2.1 x 1)
        have hw2 : wf (c_takeChoice σ x (rat (σ.1 (x + 1)) (σ.2.1 x 1))).2 := w_takeChoice hw hx (by omega)
        have q_91 := n_takeChoice (σ := σ) (x := x) (c := (rat (σ.1 (x + 1)) (σ.2.1 x 1)))
        exact hw2
theorem w_takeMarks {σ : cS} {x : Nat} (hw : wf σ) (hx : kd x = 5) (hv : σ.2.1 x 1 ≤ 9) : wf (c_takeMarks σ x).2 := by
  unfold c_takeMarks
  split
  · split
    · split
      · have r_5 := hw.ra2 (kX1 hx) 0
        have r_18 := hw.ra2 (kX1 hx) 1
        have r_31 := hw.ra2 (kX1 hx) 2
        have hw12 : wf (cI σ x 1 3) := wf_I hw (by omega)
        exact w_takeMarksL hw12 hx (7)  (by first | omega | (have g0 := hw12.2.2.1 x 1; omega) | (simp [cI, upI, i_addCharacter, i_addComponent, i_addElement, i_addSegment]; omega) | (simp [cI, upI, i_addCharacter, i_addComponent, i_addElement, i_addSegment]; done))
      · have r_5 := hw.ra2 (kX1 hx) 0
        have r_18 := hw.ra2 (kX1 hx) 1
        have r_31 := hw.ra2 (kX1 hx) 2
        have hw13 : wf (cI σ x 2 58) := wf_I hw (by omega)
        have hw14 : wf (cI (cI σ x 2 58) x 3 43) := wf_I hw13 (by omega)
        have hw15 : wf (cI (cI (cI σ x 2 58) x 3 43) x 4 63) := wf_I hw14 (by omega)
        have hw16 : wf (cI (cI (cI (cI σ x 2 58) x 3 43) x 4 63) x 5 39) := wf_I hw15 (by omega)
        exact hw16
    · have r_5 := hw.ra2 (kX1 hx) 0
      have r_18 := hw.ra2 (kX1 hx) 1
      have hw7 : wf (cI σ x 2 58) := wf_I hw (by omega)
      have hw8 : wf (cI (cI σ x 2 58) x 3 43) := wf_I hw7 (by omega)
      have hw9 : wf (cI (cI (cI σ x 2 58) x 3 43) x 4 63) := wf_I hw8 (by omega)
      have hw10 : wf (cI (cI (cI (cI σ x 2 58) x 3 43) x 4 63) x 5 39) := wf_I hw9 (by omega)
      exact hw10
  · have r_5 := hw.ra2 (kX1 hx) 0
    have hw2 : wf (cI σ x 2 58) := wf_I hw (by omega)
    have hw3 : wf (cI (cI σ x 2 58) x 3 43) := wf_I hw2 (by omega)
    have hw4 : wf (cI (cI (cI σ x 2 58) x 3 43) x 4 63) := wf_I hw3 (by omega)
    have hw5 : wf (cI (cI (cI (cI σ x 2 58) x 3 43) x 4 63) x 5 39) := wf_I hw4 (by omega)
    exact hw5
theorem b_takeMarksL {σ : cS} {x : Nat} (hw : wf σ) (hx : kd x = 5) (fu : Nat)  (hv : σ.2.1 x 1 ≤ 9) : (c_takeMarksL x fu  σ).2.2.1 x 1 ≤ 9 := by
  induction fu generalizing σ with
  | zero => unfold c_takeMarksL; show σ.2.1 x 1 ≤ _; omega
  | succ fu ih =>
    unfold c_takeMarksL
    split
    · have g_71 := hw.2.2.1 x 1
      first | omega | (simp [cI, upI, i_addCharacter, i_addComponent, i_addElement, i_addSegment]; omega) | (simp [cI, upI, i_addCharacter, i_addComponent, i_addElement, i_addSegment]; done)
    · split
      · have g_71 := hw.2.2.1 x 1
        have g_85 := hw.2.2.1 x 1
        have r_88 := hw.ra2 (kX1 hx) (σ.2.1 x 1)
        have hw2 : wf (c_takeChoice σ x (rat (σ.1 (x + 1)) (σ.2.1 x 1))).2 := w_takeChoice hw hx (by omega)
        have q_91 := n_takeChoice (σ := σ) (x := x) (c := (rat (σ.1 (x + 1)) (σ.2.1 x 1)))
        have g_101 := hw2.2.2.1 x 1
        have hw4 : wf (cI (c_takeChoice σ x (rat (σ.1 (x + 1)) (σ.2.1 x 1))).2 x 1 (((c_takeChoice σ x (rat (σ.1 (x + 1)) (σ.2.1 x 1))).2.2.1 x 1) + 1)) := wf_I hw2 (by omega)
        exact (ih hw4  (by first | omega | (have g0 := hw4.2.2.1 x 1; omega) | (simp [cI, upI, i_addCharacter, i_addComponent, i_addElement, i_addSegment]; omega) | (simp [cI, upI, i_addCharacter, i_addComponent, i_addElement, i_addSegment]; done)))
      · have g_71 := hw.2.2.1 x 1
        have g_85 := hw.2.2.1 x 1
        have r_88 := hw.ra2 (kX1 hx) (σ.2.1 x 1)
        have hw2 : wf (c_takeChoice σ x (rat (σ.1 (x + 1)) (σ.2.1 x 1))).2 := w_takeChoice hw hx (by omega)
        have q_91 := n_takeChoice (σ := σ) (x := x) (c := (rat (σ.1 (x + 1)) (σ.2.1 x 1)))
        first | omega | (simp [cI, upI, i_addCharacter, i_addComponent, i_addElement, i_addSegment]; omega) | (simp [cI, upI, i_addCharacter, i_addComponent, i_addElement, i_addSegment]; done)
theorem b_takeMarks {σ : cS} {x : Nat} (hw : wf σ) (hx : kd x = 5) (hv : σ.2.1 x 1 ≤ 9) : (c_takeMarks σ x).2.2.1 x 1 ≤ 9 := by
  unfold c_takeMarks
  split
  · split
    · split
      · have r_5 := hw.ra2 (kX1 hx) 0
        have r_18 := hw.ra2 (kX1 hx) 1
        have r_31 := hw.ra2 (kX1 hx) 2
        have hw12 : wf (cI σ x 1 3) := wf_I hw (by omega)
        exact (b_takeMarksL hw12 hx (7)  (by first | omega | (have g0 := hw12.2.2.1 x 1; omega) | (simp [cI, upI, i_addCharacter, i_addComponent, i_addElement, i_addSegment]; omega) | (simp [cI, upI, i_addCharacter, i_addComponent, i_addElement, i_addSegment]; done)))
      · have r_5 := hw.ra2 (kX1 hx) 0
        have r_18 := hw.ra2 (kX1 hx) 1
        have r_31 := hw.ra2 (kX1 hx) 2
        have hw13 : wf (cI σ x 2 58) := wf_I hw (by omega)
        have hw14 : wf (cI (cI σ x 2 58) x 3 43) := wf_I hw13 (by omega)
        have hw15 : wf (cI (cI (cI σ x 2 58) x 3 43) x 4 63) := wf_I hw14 (by omega)
        have hw16 : wf (cI (cI (cI (cI σ x 2 58) x 3 43) x 4 63) x 5 39) := wf_I hw15 (by omega)
        first | omega | (simp [cI, upI, i_addCharacter, i_addComponent, i_addElement, i_addSegment]; omega) | (simp [cI, upI, i_addCharacter, i_addComponent, i_addElement, i_addSegment]; done)
    · have r_5 := hw.ra2 (kX1 hx) 0
      have r_18 := hw.ra2 (kX1 hx) 1
      have hw7 : wf (cI σ x 2 58) := wf_I hw (by omega)
      have hw8 : wf (cI (cI σ x 2 58) x 3 43) := wf_I hw7 (by omega)
      have hw9 : wf (cI (cI (cI σ x 2 58) x 3 43) x 4 63) := wf_I hw8 (by omega)
      have hw10 : wf (cI (cI (cI (cI σ x 2 58) x 3 43) x 4 63) x 5 39) := wf_I hw9 (by omega)
      first | omega | (simp [cI, upI, i_addCharacter, i_addComponent, i_addElement, i_addSegment]; omega) | (simp [cI, upI, i_addCharacter, i_addComponent, i_addElement, i_addSegment]; done)
  · have r_5 := hw.ra2 (kX1 hx) 0
    have hw2 : wf (cI σ x 2 58) := wf_I hw (by omega)
    have hw3 : wf (cI (cI σ x 2 58) x 3 43) := wf_I hw2 (by omega)
    have hw4 : wf (cI (cI (cI σ x 2 58) x 3 43) x 4 63) := wf_I hw3 (by omega)
    have hw5 : wf (cI (cI (cI (cI σ x 2 58) x 3 43) x 4 63) x 5 39) := wf_I hw4 (by omega)
    first | omega | (simp [cI, upI, i_addCharacter, i_addComponent, i_addElement, i_addSegment]; omega) | (simp [cI, upI, i_addCharacter, i_addComponent, i_addElement, i_addSegment]; done)
def c_takeComponentL (x : Nat) (p : Nat) : Nat → cS → cS
  | 0, σ => σ
  | fu + 1, σ => (if (σ.1 (x + 1)).length ≤ (σ.2.1 x 1) then σ else (if (rat (σ.1 (x + 1)) (σ.2.1 x 1)) = (σ.2.1 x 2) then σ else (if (rat (σ.1 (x + 1)) (σ.2.1 x 1)) = (σ.2.1 x 3) then σ else (if (rat (σ.1 (x + 1)) (σ.2.1 x 1)) = (σ.2.1 x 5) then σ else (if (rat (σ.1 (x + 1)) (σ.2.1 x 1)) = (σ.2.1 x 4) then (if (rat ((cI σ x 1 ((σ.2.1 x 1) + 1)).1 (x + 1)) ((σ.2.1 x 1) + 1)) = (-1) then (cI σ x 1 ((σ.2.1 x 1) + 1)) else (c_takeComponentL x p fu  (cI (c_addCharacter (cI σ x 1 ((σ.2.1 x 1) + 1)) p (rat ((cI σ x 1 ((σ.2.1 x 1) + 1)).1 (x + 1)) ((σ.2.1 x 1) + 1))) x 1 (((σ.2.1 x 1) + 1) + 1)))) else (if (rat (σ.1 (x + 1)) (σ.2.1 x 1)) = (-1) then σ else (c_takeComponentL x p fu  (cI (c_addCharacter σ p (rat (σ.1 (x + 1)) (σ.2.1 x 1))) x 1 ((σ.2.1 x 1) + 1)))))))))
def c_takeComponent (σ : cS) (x : Nat) (p : Nat) : cS := (c_takeComponentL x p (100003001)  σ)
theorem t_takeComponentL {l : Launch} {G : jG} {d : Nat} {σ : cS} {x : Nat} {p : Nat} (hw : wf σ) (hd : 2 ≤ d) (hx : kd x = 5) (hp : kd p = 2) (fu : Nat)  (hm : 100000000 - σ.2.1 x 1 < (fu : Int)) : CJ jCls jown l G (Yx mX5_takeComponent) d 0 0 0 [some (.ref x), some (.ref p), none] [] σ (det none (c_takeComponentL x p fu  σ)) := by
  induction fu generalizing σ with
  | zero => have g0 := hw.2.2.1 x 1; exact absurd hm (by omega)
  | succ fu ih =>
    have g0 := hw.2.2.1 x 1
    refine C_aload_n dX5_takeComponent_0 rfl ?_
    refine C_get dX5_takeComponent_1 f_X5_20 (fun h hc => ⟨_, hc.2.2.2.2.1 _ hx, rfl⟩) ?_
    have g_1 := hw.2.2.1 x 1
    refine C_aload_n dX5_takeComponent_4 rfl ?_
    refine C_get dX5_takeComponent_5 f_X5_14 (fun h hc => ⟨_, hc.2.2.2.2.1 _ hx, rfl⟩) ?_
    refine D_callV (As := []) (d' := 0) (row_size hw (kX1 hx)) dX5_takeComponent_8 v_X5_36 (fun h hc => ⟨_, (hc.1 _ (kX1 hx)).1⟩) rfl (Nat.le_of_ble_eq_true rfl) (by omega) (Nat.le_of_ble_eq_true rfl) ?_
    simp only [Option.toList, List.nil_append, List.cons_append]
    have r_8 := hw.len (kX1 hx)
    refine C_icmp_ge (tgt := 105) dX5_takeComponent_11 (by decide) (by omega) (by omega) (fun c_11 => ?_) (fun c_11 => ?_)
    · refine C_vret dX5_takeComponent_105 rfl ⟨rfl, ?_⟩
      rw [c_takeComponentL, if_pos (by omega)]
    · refine C_aload_n dX5_takeComponent_14 rfl ?_
      refine C_get dX5_takeComponent_15 f_X5_14 (fun h hc => ⟨_, hc.2.2.2.2.1 _ hx, rfl⟩) ?_
      refine C_aload_n dX5_takeComponent_18 rfl ?_
      refine C_get dX5_takeComponent_19 f_X5_20 (fun h hc => ⟨_, hc.2.2.2.2.1 _ hx, rfl⟩) ?_
      have g_19 := hw.2.2.1 x 1
      refine D_callV (As := [vi _]) (d' := 0) (row_at hw (kX1 hx) (by omega)) dX5_takeComponent_22 v_X5_60 (fun h hc => ⟨_, (hc.1 _ (kX1 hx)).1⟩) rfl (Nat.le_of_ble_eq_true rfl) (by omega) (Nat.le_of_ble_eq_true rfl) ?_
      simp only [Option.toList, List.nil_append, List.cons_append]
      have r_22 := hw.ra2 (kX1 hx) (σ.2.1 x 1)
      refine C_istore_n dX5_takeComponent_25 (by decide) rfl ?_
      simp only [List.set_cons_zero, List.set_cons_succ, jfin0, jfin1, jfin2, jfin3]
      refine C_iload_n dX5_takeComponent_26 rfl ?_
      refine C_aload_n dX5_takeComponent_27 rfl ?_
      refine C_get dX5_takeComponent_28 f_X5_24 (fun h hc => ⟨_, hc.2.2.2.2.1 _ hx, rfl⟩) ?_
      have g_28 := hw.2.2.1 x 2
      refine C_icmp_eq (tgt := 50) dX5_takeComponent_31 (by decide) (by omega) (by omega) (fun c_31 => ?_) (fun c_31 => ?_)
      · refine C_vret dX5_takeComponent_50 rfl ⟨rfl, ?_⟩
        rw [c_takeComponentL, if_neg (by omega), if_pos (by omega)]
      · refine C_iload_n dX5_takeComponent_34 rfl ?_
        refine C_aload_n dX5_takeComponent_35 rfl ?_
        refine C_get dX5_takeComponent_36 f_X5_27 (fun h hc => ⟨_, hc.2.2.2.2.1 _ hx, rfl⟩) ?_
        have g_36 := hw.2.2.1 x 3
        refine C_icmp_eq (tgt := 50) dX5_takeComponent_39 (by decide) (by omega) (by omega) (fun c_39 => ?_) (fun c_39 => ?_)
        · refine C_vret dX5_takeComponent_50 rfl ⟨rfl, ?_⟩
          rw [c_takeComponentL, if_neg (by omega), if_neg (by omega), if_pos (by omega)]
        · refine C_iload_n dX5_takeComponent_42 rfl ?_
          refine C_aload_n dX5_takeComponent_43 rfl ?_
          refine C_get dX5_takeComponent_44 f_X5_33 (fun h hc => ⟨_, hc.2.2.2.2.1 _ hx, rfl⟩) ?_
          have g_44 := hw.2.2.1 x 5
          refine C_icmp_ne (tgt := 51) dX5_takeComponent_47 (by decide) (by omega) (by omega) (fun c_47 => ?_) (fun c_47 => ?_)
          · refine C_iload_n dX5_takeComponent_51 rfl ?_
            refine C_aload_n dX5_takeComponent_52 rfl ?_
            refine C_get dX5_takeComponent_53 f_X5_30 (fun h hc => ⟨_, hc.2.2.2.2.1 _ hx, rfl⟩) ?_
            have g_53 := hw.2.2.1 x 4
            refine C_icmp_ne (tgt := 81) dX5_takeComponent_56 (by decide) (by omega) (by omega) (fun c_56 => ?_) (fun c_56 => ?_)
            · refine C_iload_n dX5_takeComponent_81 rfl ?_
              refine C_iconst dX5_takeComponent_82 ?_
              refine C_icmp_ne (tgt := 87) dX5_takeComponent_83 (by decide) (by omega) (by omega) (fun c_83 => ?_) (fun c_83 => ?_)
              · refine C_aload_n dX5_takeComponent_87 rfl ?_
                refine C_iload_n dX5_takeComponent_88 rfl ?_
                refine D_callV (As := [vi _]) (d' := 1) (t_addCharacter hw (Nat.le_refl _) hp (by omega)) dX5_takeComponent_89 v_X5_96 (fun h hc => ⟨_, hc.2.1 _ hp⟩) rfl (Nat.le_of_ble_eq_true rfl) (by omega) (Nat.le_of_ble_eq_true rfl) ?_
                simp only [Option.toList, List.nil_append, List.cons_append]
                have hw7 : wf (c_addCharacter σ p (rat (σ.1 (x + 1)) (σ.2.1 x 1))) := w_addCharacter hw hp (by omega)
                refine C_aload_n dX5_takeComponent_92 rfl ?_
                refine C_dup dX5_takeComponent_93 rfl ?_
                refine C_get (v := vi (σ.2.1 x 1)) dX5_takeComponent_94 f_X5_20 (fun h hc => ⟨_, hc.2.2.2.2.1 _ hx, congrArg (fun z => some (vi z)) (show ((c_addCharacter σ p (rat (σ.1 (x + 1)) (σ.2.1 x 1))).2.1 x 1) = (σ.2.1 x 1) by simp [cI, upI, cadd, cput, cemp, i_addCharacter])⟩) ?_
                have g_94 := hw.2.2.1 x 1
                refine C_iconst dX5_takeComponent_97 ?_
                refine C_iadd dX5_takeComponent_98 ?_
                refine C_put (σ' := (cI (c_addCharacter σ p (rat (σ.1 (x + 1)) (σ.2.1 x 1))) x 1 ((σ.2.1 x 1) + 1))) dX5_takeComponent_99 f_X5_20 jfit_i (ownX hx) (fun h hc => hc.putX1 hx) ?_
                have hw8 : wf (cI (c_addCharacter σ p (rat (σ.1 (x + 1)) (σ.2.1 x 1))) x 1 ((σ.2.1 x 1) + 1)) := wf_I hw7 (by omega)
                refine C_goto (tgt := 0) dX5_takeComponent_102 (by decide) ?_
                rw [c_takeComponentL, if_neg (by omega), if_neg (by omega), if_neg (by omega), if_neg (by omega), if_neg (by omega), if_neg (by omega)]
                refine CJ.mono (ls' := [some (.ref x), some (.ref p), none]) (lsub_ok (by repeat (first | exact trivial | refine ⟨rfl, ?_⟩))) (fun _ _ q => q) ?_
                exact ih hw8  (by first | omega | (have g0 := hw8.2.2.1 x 1; omega) | (simp [cI, upI, i_addCharacter, i_addComponent, i_addElement, i_addSegment]; omega) | (simp [cI, upI, i_addCharacter, i_addComponent, i_addElement, i_addSegment]; done))
              · refine C_vret dX5_takeComponent_86 rfl ⟨rfl, ?_⟩
                rw [c_takeComponentL, if_neg (by omega), if_neg (by omega), if_neg (by omega), if_neg (by omega), if_neg (by omega), if_pos (by omega)]
            · refine C_aload_n dX5_takeComponent_59 rfl ?_
              refine C_dup dX5_takeComponent_60 rfl ?_
              refine C_get dX5_takeComponent_61 f_X5_20 (fun h hc => ⟨_, hc.2.2.2.2.1 _ hx, rfl⟩) ?_
              have g_61 := hw.2.2.1 x 1
              refine C_iconst dX5_takeComponent_64 ?_
              refine C_iadd dX5_takeComponent_65 ?_
              refine C_put (σ' := (cI σ x 1 ((σ.2.1 x 1) + 1))) dX5_takeComponent_66 f_X5_20 jfit_i (ownX hx) (fun h hc => hc.putX1 hx) ?_
              have hw9 : wf (cI σ x 1 ((σ.2.1 x 1) + 1)) := wf_I hw (by omega)
              refine C_aload_n dX5_takeComponent_69 rfl ?_
              refine C_get dX5_takeComponent_70 f_X5_14 (fun h hc => ⟨_, hc.2.2.2.2.1 _ hx, rfl⟩) ?_
              refine C_aload_n dX5_takeComponent_73 rfl ?_
              refine C_get (v := vi ((σ.2.1 x 1) + 1)) dX5_takeComponent_74 f_X5_20 (fun h hc => ⟨_, hc.2.2.2.2.1 _ hx, congrArg (fun z => some (vi z)) (show ((cI σ x 1 ((σ.2.1 x 1) + 1)).2.1 x 1) = ((σ.2.1 x 1) + 1) by simp [cI, upI, cadd, cput, cemp])⟩) ?_
              refine D_callV (As := [vi _]) (d' := 0) (row_at hw9 (kX1 hx) (by omega)) dX5_takeComponent_77 v_X5_60 (fun h hc => ⟨_, (hc.1 _ (kX1 hx)).1⟩) rfl (Nat.le_of_ble_eq_true rfl) (by omega) (Nat.le_of_ble_eq_true rfl) ?_
              simp only [Option.toList, List.nil_append, List.cons_append]
              have r_77 := hw9.ra2 (kX1 hx) ((σ.2.1 x 1) + 1)
              refine C_istore_n dX5_takeComponent_80 (by decide) rfl ?_
              simp only [List.set_cons_zero, List.set_cons_succ, jfin0, jfin1, jfin2, jfin3]
              refine C_iload_n dX5_takeComponent_81 rfl ?_
              refine C_iconst dX5_takeComponent_82 ?_
              refine C_icmp_ne (tgt := 87) dX5_takeComponent_83 (by decide) (by omega) (by omega) (fun c_83 => ?_) (fun c_83 => ?_)
              · refine C_aload_n dX5_takeComponent_87 rfl ?_
                refine C_iload_n dX5_takeComponent_88 rfl ?_
                refine D_callV (As := [vi _]) (d' := 1) (t_addCharacter hw9 (Nat.le_refl _) hp (by omega)) dX5_takeComponent_89 v_X5_96 (fun h hc => ⟨_, hc.2.1 _ hp⟩) rfl (Nat.le_of_ble_eq_true rfl) (by omega) (Nat.le_of_ble_eq_true rfl) ?_
                simp only [Option.toList, List.nil_append, List.cons_append]
                have hw11 : wf (c_addCharacter (cI σ x 1 ((σ.2.1 x 1) + 1)) p (rat ((cI σ x 1 ((σ.2.1 x 1) + 1)).1 (x + 1)) ((σ.2.1 x 1) + 1))) := w_addCharacter hw9 hp (by omega)
                refine C_aload_n dX5_takeComponent_92 rfl ?_
                refine C_dup dX5_takeComponent_93 rfl ?_
                refine C_get (v := vi ((σ.2.1 x 1) + 1)) dX5_takeComponent_94 f_X5_20 (fun h hc => ⟨_, hc.2.2.2.2.1 _ hx, congrArg (fun z => some (vi z)) (show ((c_addCharacter (cI σ x 1 ((σ.2.1 x 1) + 1)) p (rat ((cI σ x 1 ((σ.2.1 x 1) + 1)).1 (x + 1)) ((σ.2.1 x 1) + 1))).2.1 x 1) = ((σ.2.1 x 1) + 1) by simp [cI, upI, cadd, cput, cemp, i_addCharacter])⟩) ?_
                refine C_iconst dX5_takeComponent_97 ?_
                refine C_iadd dX5_takeComponent_98 ?_
                refine C_put (σ' := (cI (c_addCharacter (cI σ x 1 ((σ.2.1 x 1) + 1)) p (rat ((cI σ x 1 ((σ.2.1 x 1) + 1)).1 (x + 1)) ((σ.2.1 x 1) + 1))) x 1 (((σ.2.1 x 1) + 1) + 1))) dX5_takeComponent_99 f_X5_20 jfit_i (ownX hx) (fun h hc => hc.putX1 hx) ?_
                have hw12 : wf (cI (c_addCharacter (cI σ x 1 ((σ.2.1 x 1) + 1)) p (rat ((cI σ x 1 ((σ.2.1 x 1) + 1)).1 (x + 1)) ((σ.2.1 x 1) + 1))) x 1 (((σ.2.1 x 1) + 1) + 1)) := wf_I hw11 (by omega)
                refine C_goto (tgt := 0) dX5_takeComponent_102 (by decide) ?_
                rw [c_takeComponentL, if_neg (by omega), if_neg (by omega), if_neg (by omega), if_neg (by omega), if_pos (by omega), if_neg (by omega)]
                refine CJ.mono (ls' := [some (.ref x), some (.ref p), none]) (lsub_ok (by repeat (first | exact trivial | refine ⟨rfl, ?_⟩))) (fun _ _ q => q) ?_
                exact ih hw12  (by first | omega | (have g0 := hw12.2.2.1 x 1; omega) | (simp [cI, upI, i_addCharacter, i_addComponent, i_addElement, i_addSegment]; omega) | (simp [cI, upI, i_addCharacter, i_addComponent, i_addElement, i_addSegment]; done))
              · refine C_vret dX5_takeComponent_86 rfl ⟨rfl, ?_⟩
                rw [c_takeComponentL, if_neg (by omega), if_neg (by omega), if_neg (by omega), if_neg (by omega), if_pos (by omega), if_pos (by omega)]
          · refine C_vret dX5_takeComponent_50 rfl ⟨rfl, ?_⟩
            rw [c_takeComponentL, if_neg (by omega), if_neg (by omega), if_neg (by omega), if_pos (by omega)]
theorem t_takeComponent {l : Launch} {G : jG} {d : Nat} {σ : cS} {x : Nat} {p : Nat} (hw : wf σ) (hd : 2 ≤ d) (hx : kd x = 5) (hp : kd p = 2) : CJ jCls jown l G (Yx mX5_takeComponent) d 0 0 0 [some (.ref x), some (.ref p), none] [] σ (det none (c_takeComponent σ x p)) := by
  rw [c_takeComponent]
  refine CJ.mono (ls' := [some (.ref x), some (.ref p), none]) (lsub_ok (by repeat (first | exact trivial | refine ⟨rfl, ?_⟩))) (fun _ _ q => q) ?_
  exact t_takeComponentL hw hd hx hp (100003001)  (by first | omega | (have g0 := hw.2.2.1 x 1; omega) | (simp [cI, upI, i_addCharacter, i_addComponent, i_addElement, i_addSegment]; omega) | (simp [cI, upI, i_addCharacter, i_addComponent, i_addElement, i_addSegment]; done))
theorem w_takeComponentL {σ : cS} {x : Nat} {p : Nat} (hw : wf σ) (hx : kd x = 5) (hp : kd p = 2) (fu : Nat)  : wf (c_takeComponentL x p fu  σ) := by
  induction fu generalizing σ with
  | zero => exact hw
  | succ fu ih =>
    unfold c_takeComponentL
    split
    · have g_1 := hw.2.2.1 x 1
      have r_8 := hw.len (kX1 hx)
      exact hw
    · split
      · have g_1 := hw.2.2.1 x 1
        have r_8 := hw.len (kX1 hx)
        have g_19 := hw.2.2.1 x 1
        have r_22 := hw.ra2 (kX1 hx) (σ.2.1 x 1)
        have g_28 := hw.2.2.1 x 2
        exact hw
      · split
        · have g_1 := hw.2.2.1 x 1
          have r_8 := hw.len (kX1 hx)
          have g_19 := hw.2.2.1 x 1
          have r_22 := hw.ra2 (kX1 hx) (σ.2.1 x 1)
          have g_28 := hw.2.2.1 x 2
          have g_36 := hw.2.2.1 x 3
          exact hw
        · split
          · have g_1 := hw.2.2.1 x 1
            have r_8 := hw.len (kX1 hx)
            have g_19 := hw.2.2.1 x 1
            have r_22 := hw.ra2 (kX1 hx) (σ.2.1 x 1)
            have g_28 := hw.2.2.1 x 2
            have g_36 := hw.2.2.1 x 3
            have g_44 := hw.2.2.1 x 5
            exact hw
          · split
            · split
              · have g_1 := hw.2.2.1 x 1
                have r_8 := hw.len (kX1 hx)
                have g_19 := hw.2.2.1 x 1
                have r_22 := hw.ra2 (kX1 hx) (σ.2.1 x 1)
                have g_28 := hw.2.2.1 x 2
                have g_36 := hw.2.2.1 x 3
                have g_44 := hw.2.2.1 x 5
                have g_53 := hw.2.2.1 x 4
                have g_61 := hw.2.2.1 x 1
                have hw9 : wf (cI σ x 1 ((σ.2.1 x 1) + 1)) := wf_I hw (by omega)
                have r_77 := hw9.ra2 (kX1 hx) ((σ.2.1 x 1) + 1)
                exact hw9
              · have g_1 := hw.2.2.1 x 1
                have r_8 := hw.len (kX1 hx)
                have g_19 := hw.2.2.1 x 1
                have r_22 := hw.ra2 (kX1 hx) (σ.2.1 x 1)
                have g_28 := hw.2.2.1 x 2
                have g_36 := hw.2.2.1 x 3
                have g_44 := hw.2.2.1 x 5
                have g_53 := hw.2.2.1 x 4
                have g_61 := hw.2.2.1 x 1
                have hw9 : wf (cI σ x 1 ((σ.2.1 x 1) + 1)) := wf_I hw (by omega)
                have r_77 := hw9.ra2 (kX1 hx) ((σ.2.1 x 1) + 1)
                have hw11 : wf (c_addCharacter (cI σ x 1 ((σ.2.1 x 1) + 1)) p (rat ((cI σ x 1 ((σ.2.1 x 1) + 1)).1 (x + 1)) ((σ.2.1 x 1) + 1))) := w_addCharacter hw9 hp (by omega)
                have hw12 : wf (cI (c_addCharacter (cI σ x 1 ((σ.2.1 x 1) + 1)) p (rat ((cI σ x 1 ((σ.2.1 x 1) + 1)).1 (x + 1)) ((σ.2.1 x 1) + 1))) x 1 (((σ.2.1 x 1) + 1) + 1)) := wf_I hw11 (by omega)
                exact ih hw12 
            · split
              · have g_1 := hw.2.2.1 x 1
                have r_8 := hw.len (kX1 hx)
                have g_19 := hw.2.2.1 x 1
                have r_22 := hw.ra2 (kX1 hx) (σ.2.1 x 1)
                have g_28 := hw.2.2.1 x 2
                have g_36 := hw.2.2.1 x 3
                have g_44 := hw.2.2.1 x 5
                have g_53 := hw.2.2.1 x 4
                exact hw
              · have g_1 := hw.2.2.1 x 1
                have r_8 := hw.len (kX1 hx)
                have g_19 := hw.2.2.1 x 1
                have r_22 := hw.ra2 (kX1 hx) (σ.2.1 x 1)
                have g_28 := hw.2.2.1 x 2
                have g_36 := hw.2.2.1 x 3
                have g_44 := hw.2.2.1 x 5
                have g_53 := hw.2.2.1 x 4
                have hw7 : wf (c_addCharacter σ p (rat (σ.1 (x + 1)) (σ.2.1 x 1))) := w_addCharacter hw hp (by omega)
                have g_94 := hw.2.2.1 x 1
                have hw8 : wf (cI (c_addCharacter σ p (rat (σ.1 (x + 1)) (σ.2.1 x 1))) x 1 ((σ.2.1 x 1) + 1)) := wf_I hw7 (by omega)
                exact ih hw8 
theorem w_takeComponent {σ : cS} {x : Nat} {p : Nat} (hw : wf σ) (hx : kd x = 5) (hp : kd p = 2) : wf (c_takeComponent σ x p) := by
  unfold c_takeComponent
  exact w_takeComponentL hw hx hp (100003001) 
theorem b_takeComponentL {σ : cS} {x : Nat} {p : Nat} (hw : wf σ) (hx : kd x = 5) (hp : kd p = 2) (fu : Nat)  : (c_takeComponentL x p fu  σ).2.1 x 1 ≤ max (σ.2.1 x 1) 2002 := by
  induction fu generalizing σ with
  | zero => unfold c_takeComponentL; show σ.2.1 x 1 ≤ _; omega
  | succ fu ih =>
    unfold c_takeComponentL
    split
    · have g_1 := hw.2.2.1 x 1
      have r_8 := hw.len (kX1 hx)
      first | omega | (simp [cI, upI, i_addCharacter, i_addComponent, i_addElement, i_addSegment]; omega) | (simp [cI, upI, i_addCharacter, i_addComponent, i_addElement, i_addSegment]; done)
    · split
      · have g_1 := hw.2.2.1 x 1
        have r_8 := hw.len (kX1 hx)
        have g_19 := hw.2.2.1 x 1
        have r_22 := hw.ra2 (kX1 hx) (σ.2.1 x 1)
        have g_28 := hw.2.2.1 x 2
        first | omega | (simp [cI, upI, i_addCharacter, i_addComponent, i_addElement, i_addSegment]; omega) | (simp [cI, upI, i_addCharacter, i_addComponent, i_addElement, i_addSegment]; done)
      · split
        · have g_1 := hw.2.2.1 x 1
          have r_8 := hw.len (kX1 hx)
          have g_19 := hw.2.2.1 x 1
          have r_22 := hw.ra2 (kX1 hx) (σ.2.1 x 1)
          have g_28 := hw.2.2.1 x 2
          have g_36 := hw.2.2.1 x 3
          first | omega | (simp [cI, upI, i_addCharacter, i_addComponent, i_addElement, i_addSegment]; omega) | (simp [cI, upI, i_addCharacter, i_addComponent, i_addElement, i_addSegment]; done)
        · split
          · have g_1 := hw.2.2.1 x 1
            have r_8 := hw.len (kX1 hx)
            have g_19 := hw.2.2.1 x 1
            have r_22 := hw.ra2 (kX1 hx) (σ.2.1 x 1)
            have g_28 := hw.2.2.1 x 2
            have g_36 := hw.2.2.1 x 3
            have g_44 := hw.2.2.1 x 5
            first | omega | (simp [cI, upI, i_addCharacter, i_addComponent, i_addElement, i_addSegment]; omega) | (simp [cI, upI, i_addCharacter, i_addComponent, i_addElement, i_addSegment]; done)
          · split
            · split
              · have g_1 := hw.2.2.1 x 1
                have r_8 := hw.len (kX1 hx)
                have g_19 := hw.2.2.1 x 1
                have r_22 := hw.ra2 (kX1 hx) (σ.2.1 x 1)
                have g_28 := hw.2.2.1 x 2
                have g_36 := hw.2.2.1 x 3
                have g_44 := hw.2.2.1 x 5
                have g_53 := hw.2.2.1 x 4
                have g_61 := hw.2.2.1 x 1
                have hw9 : wf (cI σ x 1 ((σ.2.1 x 1) + 1)) := wf_I hw (by omega)
                have r_77 := hw9.ra2 (kX1 hx) ((σ.2.1 x 1) + 1)
                first | omega | (simp [cI, upI, i_addCharacter, i_addComponent, i_addElement, i_addSegment]; omega) | (simp [cI, upI, i_addCharacter, i_addComponent, i_addElement, i_addSegment]; done)
              · have g_1 := hw.2.2.1 x 1
                have r_8 := hw.len (kX1 hx)
                have g_19 := hw.2.2.1 x 1
                have r_22 := hw.ra2 (kX1 hx) (σ.2.1 x 1)
                have g_28 := hw.2.2.1 x 2
                have g_36 := hw.2.2.1 x 3
                have g_44 := hw.2.2.1 x 5
                have g_53 := hw.2.2.1 x 4
                have g_61 := hw.2.2.1 x 1
                have hw9 : wf (cI σ x 1 ((σ.2.1 x 1) + 1)) := wf_I hw (by omega)
                have r_77 := hw9.ra2 (kX1 hx) ((σ.2.1 x 1) + 1)
                have hw11 : wf (c_addCharacter (cI σ x 1 ((σ.2.1 x 1) + 1)) p (rat ((cI σ x 1 ((σ.2.1 x 1) + 1)).1 (x + 1)) ((σ.2.1 x 1) + 1))) := w_addCharacter hw9 hp (by omega)
                have hw12 : wf (cI (c_addCharacter (cI σ x 1 ((σ.2.1 x 1) + 1)) p (rat ((cI σ x 1 ((σ.2.1 x 1) + 1)).1 (x + 1)) ((σ.2.1 x 1) + 1))) x 1 (((σ.2.1 x 1) + 1) + 1)) := wf_I hw11 (by omega)
                refine Int.le_trans (ih hw12 ) ?_; first | omega | (simp only [cI_at, i_addCharacter, i_addComponent, i_addElement, i_addSegment]; omega)
            · split
              · have g_1 := hw.2.2.1 x 1
                have r_8 := hw.len (kX1 hx)
                have g_19 := hw.2.2.1 x 1
                have r_22 := hw.ra2 (kX1 hx) (σ.2.1 x 1)
                have g_28 := hw.2.2.1 x 2
                have g_36 := hw.2.2.1 x 3
                have g_44 := hw.2.2.1 x 5
                have g_53 := hw.2.2.1 x 4
                first | omega | (simp [cI, upI, i_addCharacter, i_addComponent, i_addElement, i_addSegment]; omega) | (simp [cI, upI, i_addCharacter, i_addComponent, i_addElement, i_addSegment]; done)
              · have g_1 := hw.2.2.1 x 1
                have r_8 := hw.len (kX1 hx)
                have g_19 := hw.2.2.1 x 1
                have r_22 := hw.ra2 (kX1 hx) (σ.2.1 x 1)
                have g_28 := hw.2.2.1 x 2
                have g_36 := hw.2.2.1 x 3
                have g_44 := hw.2.2.1 x 5
                have g_53 := hw.2.2.1 x 4
                have hw7 : wf (c_addCharacter σ p (rat (σ.1 (x + 1)) (σ.2.1 x 1))) := w_addCharacter hw hp (by omega)
                have g_94 := hw.2.2.1 x 1
                have hw8 : wf (cI (c_addCharacter σ p (rat (σ.1 (x + 1)) (σ.2.1 x 1))) x 1 ((σ.2.1 x 1) + 1)) := wf_I hw7 (by omega)
                refine Int.le_trans (ih hw8 ) ?_; first | omega | (simp only [cI_at, i_addCharacter, i_addComponent, i_addElement, i_addSegment]; omega)
theorem b_takeComponent {σ : cS} {x : Nat} {p : Nat} (hw : wf σ) (hx : kd x = 5) (hp : kd p = 2) : (c_takeComponent σ x p).2.1 x 1 ≤ max (σ.2.1 x 1) 2002 := by
  unfold c_takeComponent
  refine Int.le_trans (b_takeComponentL hw hx hp (100003001) ) ?_; first | omega | (simp only [cI_at, i_addCharacter, i_addComponent, i_addElement, i_addSegment]; omega)
def c_takeElementL (x : Nat) (p : Nat) : Nat → Int → cS → cS
  | 0, _, σ => σ
  | fu + 1, k, σ => (if 120 ≤ k then σ else (if (rat ((c_takeComponent (c_addComponent σ p) x p).1 (x + 1)) ((c_takeComponent (c_addComponent σ p) x p).2.1 x 1)) = ((c_takeComponent (c_addComponent σ p) x p).2.1 x 2) then (if (c_isFull (c_takeComponent (c_addComponent σ p) x p) p) = true then (c_takeComponent (c_addComponent σ p) x p) else (c_takeElementL x p fu (k + 1) (cI (c_takeComponent (c_addComponent σ p) x p) x 1 (((c_takeComponent (c_addComponent σ p) x p).2.1 x 1) + 1)))) else (c_takeComponent (c_addComponent σ p) x p)))
def c_takeElement (σ : cS) (x : Nat) (p : Nat) : cS := (c_takeElementL x p (121) 0 σ)
theorem t_takeElementL {l : Launch} {G : jG} {d : Nat} {σ : cS} {x : Nat} {p : Nat} {k : Int} (hw : wf σ) (hd : 3 ≤ d) (hx : kd x = 5) (hp : kd p = 2) (fu : Nat) (hk : 0 ≤ k ∧ k ≤ 120) (hv : σ.2.1 x 1 ≤ 90000000 + k) (hm : 120 - k < (fu : Int)) : CJ jCls jown l G (Yx mX5_takeElement) d 0 0 2 [some (.ref x), some (.ref p), some (vi k)] [] σ (det none (c_takeElementL x p fu k σ)) := by
  induction fu generalizing σ k with
  | zero => exact absurd hm (by omega)
  | succ fu ih =>
    refine C_iload_n dX5_takeElement_2 rfl ?_
    refine C_bipush dX5_takeElement_3 (by decide) ?_
    refine C_icmp_ge (tgt := 59) dX5_takeElement_5 (by decide) (by omega) (by omega) (fun c_5 => ?_) (fun c_5 => ?_)
    · refine C_vret dX5_takeElement_59 rfl ⟨rfl, ?_⟩
      rw [c_takeElementL, if_pos (by omega)]
    · refine C_aload_n dX5_takeElement_8 rfl ?_
      refine D_callV (As := []) (d' := 1) (t_addComponent hw (Nat.le_refl _) hp) dX5_takeElement_9 v_X5_90 (fun h hc => ⟨_, hc.2.1 _ hp⟩) rfl (Nat.le_of_ble_eq_true rfl) (by omega) (Nat.le_of_ble_eq_true rfl) ?_
      simp only [Option.toList, List.nil_append, List.cons_append]
      have hw2 : wf (c_addComponent σ p) := w_addComponent hw hp
      refine C_aload_n dX5_takeElement_12 rfl ?_
      refine C_aload_n dX5_takeElement_13 rfl ?_
      refine D_callV (As := [.ref _]) (d' := 2) (t_takeComponent hw2 (Nat.le_refl _) hx hp) dX5_takeElement_14 v_X5_93 (fun h hc => ⟨_, hc.2.2.2.2.1 _ hx⟩) rfl (Nat.le_of_ble_eq_true rfl) (by omega) (Nat.le_of_ble_eq_true rfl) ?_
      simp only [Option.toList, List.nil_append, List.cons_append]
      have hw3 : wf (c_takeComponent (c_addComponent σ p) x p) := w_takeComponent hw2 hx hp
      have q_14 := b_takeComponent (x := x) hw2 hx hp
      try simp only [cI_at, i_addCharacter, i_addComponent, i_addElement, i_addSegment] at q_14
      refine C_aload_n dX5_takeElement_17 rfl ?_
      refine C_get dX5_takeElement_18 f_X5_14 (fun h hc => ⟨_, hc.2.2.2.2.1 _ hx, rfl⟩) ?_
      refine C_aload_n dX5_takeElement_21 rfl ?_
      refine C_get dX5_takeElement_22 f_X5_20 (fun h hc => ⟨_, hc.2.2.2.2.1 _ hx, rfl⟩) ?_
      have g_22 := hw3.2.2.1 x 1
      refine D_callV (As := [vi _]) (d' := 0) (row_at hw3 (kX1 hx) (by omega)) dX5_takeElement_25 v_X5_60 (fun h hc => ⟨_, (hc.1 _ (kX1 hx)).1⟩) rfl (Nat.le_of_ble_eq_true rfl) (by omega) (Nat.le_of_ble_eq_true rfl) ?_
      simp only [Option.toList, List.nil_append, List.cons_append]
      have r_25 := hw3.ra2 (kX1 hx) ((c_takeComponent (c_addComponent σ p) x p).2.1 x 1)
      refine C_aload_n dX5_takeElement_28 rfl ?_
      refine C_get dX5_takeElement_29 f_X5_24 (fun h hc => ⟨_, hc.2.2.2.2.1 _ hx, rfl⟩) ?_
      have g_29 := hw3.2.2.1 x 2
      refine C_icmp_ne (tgt := 42) dX5_takeElement_32 (by decide) (by omega) (by omega) (fun c_32 => ?_) (fun c_32 => ?_)
      · refine C_vret dX5_takeElement_42 rfl ⟨rfl, ?_⟩
        rw [c_takeElementL, if_neg (by omega), if_neg (by omega)]
      · refine C_aload_n dX5_takeElement_35 rfl ?_
        refine D_callV (As := []) (d' := 1) (t_isFull hw3 (Nat.le_refl _) hp) dX5_takeElement_36 v_X5_80 (fun h hc => ⟨_, hc.2.1 _ hp⟩) rfl (Nat.le_of_ble_eq_true rfl) (by omega) (Nat.le_of_ble_eq_true rfl) ?_
        simp only [Option.toList, List.nil_append, List.cons_append]
        refine C_if_eqZ (tgt := 43) dX5_takeElement_39 (by decide) (fun c_39 => ?_) (fun c_39 => ?_)
        · refine C_aload_n dX5_takeElement_43 rfl ?_
          refine C_dup dX5_takeElement_44 rfl ?_
          refine C_get dX5_takeElement_45 f_X5_20 (fun h hc => ⟨_, hc.2.2.2.2.1 _ hx, rfl⟩) ?_
          have g_45 := hw3.2.2.1 x 1
          refine C_iconst dX5_takeElement_48 ?_
          refine C_iadd dX5_takeElement_49 ?_
          refine C_put (σ' := (cI (c_takeComponent (c_addComponent σ p) x p) x 1 (((c_takeComponent (c_addComponent σ p) x p).2.1 x 1) + 1))) dX5_takeElement_50 f_X5_20 jfit_i (ownX hx) (fun h hc => hc.putX1 hx) ?_
          have hw6 : wf (cI (c_takeComponent (c_addComponent σ p) x p) x 1 (((c_takeComponent (c_addComponent σ p) x p).2.1 x 1) + 1)) := wf_I hw3 (by omega)
          refine C_iinc dX5_takeElement_53 rfl (by decide) rfl ?_
          simp only [List.set_cons_zero, List.set_cons_succ]
          refine C_goto (tgt := 2) dX5_takeElement_56 (by decide) ?_
          rw [c_takeElementL, if_neg (by omega), if_pos (by omega), if_neg (by rw [c_39]; decide)]
          refine CJ.mono (ls' := [some (.ref x), some (.ref p), some (vi (k + 1))]) (lsub_ok (by repeat (first | exact trivial | refine ⟨rfl, ?_⟩))) (fun _ _ q => q) ?_
          exact ih hw6 (by omega) (by first | omega | (have g0 := hw6.2.2.1 x 1; omega) | (simp [cI, upI, i_addCharacter, i_addComponent, i_addElement, i_addSegment]; omega) | (simp [cI, upI, i_addCharacter, i_addComponent, i_addElement, i_addSegment]; done)) (by omega)
        · refine C_vret dX5_takeElement_42 rfl ⟨rfl, ?_⟩
          rw [c_takeElementL, if_neg (by omega), if_pos (by omega), if_pos c_39]
theorem t_takeElement {l : Launch} {G : jG} {d : Nat} {σ : cS} {x : Nat} {p : Nat} (hw : wf σ) (hd : 3 ≤ d) (hx : kd x = 5) (hp : kd p = 2) (hv : σ.2.1 x 1 ≤ 90000000) : CJ jCls jown l G (Yx mX5_takeElement) d 0 0 0 [some (.ref x), some (.ref p), none] [] σ (det none (c_takeElement σ x p)) := by
  refine C_iconst dX5_takeElement_0 ?_
  refine C_istore_n dX5_takeElement_1 (by decide) rfl ?_
  simp only [List.set_cons_zero, List.set_cons_succ, jfin0, jfin1, jfin2, jfin3]
  rw [c_takeElement]
  refine CJ.mono (ls' := [some (.ref x), some (.ref p), some (vi 0)]) (lsub_ok (by repeat (first | exact trivial | refine ⟨rfl, ?_⟩))) (fun _ _ q => q) ?_
  exact t_takeElementL hw hd hx hp (121) (by omega) (by first | omega | (have g0 := hw.2.2.1 x 1; omega) | (simp [cI, upI, i_addCharacter, i_addComponent, i_addElement, i_addSegment]; omega) | (simp [cI, upI, i_addCharacter, i_addComponent, i_addElement, i_addSegment]; done)) (by omega)
theorem w_takeElementL {σ : cS} {x : Nat} {p : Nat} {k : Int} (hw : wf σ) (hx : kd x = 5) (hp : kd p = 2) (fu : Nat) (hk : 0 ≤ k ∧ k ≤ 120) (hv : σ.2.1 x 1 ≤ 90000000 + k) : wf (c_takeElementL x p fu k σ) := by
  induction fu generalizing σ k with
  | zero => exact hw
  | succ fu ih =>
    unfold c_takeElementL
    split
    · exact hw
    · split
      · split
        · have hw2 : wf (c_addComponent σ p) := w_addComponent hw hp
          have hw3 : wf (c_takeComponent (c_addComponent σ p) x p) := w_takeComponent hw2 hx hp
          have q_14 := b_takeComponent (x := x) hw2 hx hp
          try simp only [cI_at, i_addCharacter, i_addComponent, i_addElement, i_addSegment] at q_14
          have g_22 := hw3.2.2.1 x 1
          have r_25 := hw3.ra2 (kX1 hx) ((c_takeComponent (c_addComponent σ p) x p).2.1 x 1)
          have g_29 := hw3.2.2.1 x 2
          exact hw3
        · have hw2 : wf (c_addComponent σ p) := w_addComponent hw hp
          have hw3 : wf (c_takeComponent (c_addComponent σ p) x p) := w_takeComponent hw2 hx hp
          have q_14 := b_takeComponent (x := x) hw2 hx hp
          try simp only [cI_at, i_addCharacter, i_addComponent, i_addElement, i_addSegment] at q_14
          have g_22 := hw3.2.2.1 x 1
          have r_25 := hw3.ra2 (kX1 hx) ((c_takeComponent (c_addComponent σ p) x p).2.1 x 1)
          have g_29 := hw3.2.2.1 x 2
          have g_45 := hw3.2.2.1 x 1
          have hw6 : wf (cI (c_takeComponent (c_addComponent σ p) x p) x 1 (((c_takeComponent (c_addComponent σ p) x p).2.1 x 1) + 1)) := wf_I hw3 (by omega)
          exact ih hw6 (by omega) (by first | omega | (have g0 := hw6.2.2.1 x 1; omega) | (simp [cI, upI, i_addCharacter, i_addComponent, i_addElement, i_addSegment]; omega) | (simp [cI, upI, i_addCharacter, i_addComponent, i_addElement, i_addSegment]; done))
      · have hw2 : wf (c_addComponent σ p) := w_addComponent hw hp
        have hw3 : wf (c_takeComponent (c_addComponent σ p) x p) := w_takeComponent hw2 hx hp
        have q_14 := b_takeComponent (x := x) hw2 hx hp
        try simp only [cI_at, i_addCharacter, i_addComponent, i_addElement, i_addSegment] at q_14
        have g_22 := hw3.2.2.1 x 1
        have r_25 := hw3.ra2 (kX1 hx) ((c_takeComponent (c_addComponent σ p) x p).2.1 x 1)
        have g_29 := hw3.2.2.1 x 2
        exact hw3
theorem w_takeElement {σ : cS} {x : Nat} {p : Nat} (hw : wf σ) (hx : kd x = 5) (hp : kd p = 2) (hv : σ.2.1 x 1 ≤ 90000000) : wf (c_takeElement σ x p) := by
  unfold c_takeElement
  exact w_takeElementL hw hx hp (121) (by omega) (by first | omega | (have g0 := hw.2.2.1 x 1; omega) | (simp [cI, upI, i_addCharacter, i_addComponent, i_addElement, i_addSegment]; omega) | (simp [cI, upI, i_addCharacter, i_addComponent, i_addElement, i_addSegment]; done))
theorem b_takeElementL {σ : cS} {x : Nat} {p : Nat} {k : Int} (hw : wf σ) (hx : kd x = 5) (hp : kd p = 2) (fu : Nat) (hk : 0 ≤ k ∧ k ≤ 120) (hv : σ.2.1 x 1 ≤ 90000000 + k) : (c_takeElementL x p fu k σ).2.1 x 1 ≤ max (σ.2.1 x 1) 2002 + (120 - k) := by
  induction fu generalizing σ k with
  | zero => unfold c_takeElementL; show σ.2.1 x 1 ≤ _; omega
  | succ fu ih =>
    unfold c_takeElementL
    split
    · first | omega | (simp [cI, upI, i_addCharacter, i_addComponent, i_addElement, i_addSegment]; omega) | (simp [cI, upI, i_addCharacter, i_addComponent, i_addElement, i_addSegment]; done)
    · split
      · split
        · have hw2 : wf (c_addComponent σ p) := w_addComponent hw hp
          have hw3 : wf (c_takeComponent (c_addComponent σ p) x p) := w_takeComponent hw2 hx hp
          have q_14 := b_takeComponent (x := x) hw2 hx hp
          try simp only [cI_at, i_addCharacter, i_addComponent, i_addElement, i_addSegment] at q_14
          have g_22 := hw3.2.2.1 x 1
          have r_25 := hw3.ra2 (kX1 hx) ((c_takeComponent (c_addComponent σ p) x p).2.1 x 1)
          have g_29 := hw3.2.2.1 x 2
          first | omega | (simp [cI, upI, i_addCharacter, i_addComponent, i_addElement, i_addSegment]; omega) | (simp [cI, upI, i_addCharacter, i_addComponent, i_addElement, i_addSegment]; done)
        · have hw2 : wf (c_addComponent σ p) := w_addComponent hw hp
          have hw3 : wf (c_takeComponent (c_addComponent σ p) x p) := w_takeComponent hw2 hx hp
          have q_14 := b_takeComponent (x := x) hw2 hx hp
          try simp only [cI_at, i_addCharacter, i_addComponent, i_addElement, i_addSegment] at q_14
          have g_22 := hw3.2.2.1 x 1
          have r_25 := hw3.ra2 (kX1 hx) ((c_takeComponent (c_addComponent σ p) x p).2.1 x 1)
          have g_29 := hw3.2.2.1 x 2
          have g_45 := hw3.2.2.1 x 1
          have hw6 : wf (cI (c_takeComponent (c_addComponent σ p) x p) x 1 (((c_takeComponent (c_addComponent σ p) x p).2.1 x 1) + 1)) := wf_I hw3 (by omega)
          refine Int.le_trans (ih hw6 (by omega) (by first | omega | (have g0 := hw6.2.2.1 x 1; omega) | (simp [cI, upI, i_addCharacter, i_addComponent, i_addElement, i_addSegment]; omega) | (simp [cI, upI, i_addCharacter, i_addComponent, i_addElement, i_addSegment]; done))) ?_; first | omega | (simp only [cI_at, i_addCharacter, i_addComponent, i_addElement, i_addSegment]; omega)
      · have hw2 : wf (c_addComponent σ p) := w_addComponent hw hp
        have hw3 : wf (c_takeComponent (c_addComponent σ p) x p) := w_takeComponent hw2 hx hp
        have q_14 := b_takeComponent (x := x) hw2 hx hp
        try simp only [cI_at, i_addCharacter, i_addComponent, i_addElement, i_addSegment] at q_14
        have g_22 := hw3.2.2.1 x 1
        have r_25 := hw3.ra2 (kX1 hx) ((c_takeComponent (c_addComponent σ p) x p).2.1 x 1)
        have g_29 := hw3.2.2.1 x 2
        first | omega | (simp [cI, upI, i_addCharacter, i_addComponent, i_addElement, i_addSegment]; omega) | (simp [cI, upI, i_addCharacter, i_addComponent, i_addElement, i_addSegment]; done)
theorem b_takeElement {σ : cS} {x : Nat} {p : Nat} (hw : wf σ) (hx : kd x = 5) (hp : kd p = 2) (hv : σ.2.1 x 1 ≤ 90000000) : (c_takeElement σ x p).2.1 x 1 ≤ max (σ.2.1 x 1) 2002 + (120) := by
  unfold c_takeElement
  refine Int.le_trans (b_takeElementL hw hx hp (121) (by omega) (by first | omega | (have g0 := hw.2.2.1 x 1; omega) | (simp [cI, upI, i_addCharacter, i_addComponent, i_addElement, i_addSegment]; omega) | (simp [cI, upI, i_addCharacter, i_addComponent, i_addElement, i_addSegment]; done))) ?_; first | omega | (simp only [cI_at, i_addCharacter, i_addComponent, i_addElement, i_addSegment]; omega)
def c_takeSegmentL2 (x : Nat) (p : Nat) : Nat → Int → cS → Bool × cS
  | 0, _, σ => (false, σ)
  | fu + 1, k, σ => (if 120 ≤ k then (if (rat (σ.1 (x + 1)) (σ.2.1 x 1)) = (σ.2.1 x 5) then (true, (cI σ x 1 ((σ.2.1 x 1) + 1))) else (false, σ)) else (if (rat (σ.1 (x + 1)) (σ.2.1 x 1)) = (σ.2.1 x 3) then (if (c_isFull σ p) = true then (if (rat (σ.1 (x + 1)) (σ.2.1 x 1)) = (σ.2.1 x 5) then (true, (cI σ x 1 ((σ.2.1 x 1) + 1))) else (false, σ)) else (c_takeSegmentL2 x p fu (k + 1) (c_takeElement (c_addElement (cI σ x 1 ((σ.2.1 x 1) + 1)) p) x p))) else (if (rat (σ.1 (x + 1)) (σ.2.1 x 1)) = (σ.2.1 x 5) then (true, (cI σ x 1 ((σ.2.1 x 1) + 1))) else (false, σ))))
def c_takeSegmentL1 (x : Nat) (p : Nat) : Nat → Int → Int → cS → Bool × cS
  | 0, _, _, σ => (false, σ)
  | fu + 1, v, k, σ => (if 3 ≤ k then (c_takeSegmentL2 x p (121) 0 (c_addSegment σ p v)) else (if (c_isCapital σ (rat (σ.1 (x + 1)) (σ.2.1 x 1))) = true then (c_takeSegmentL1 x p fu ((v * 256) + (rat (σ.1 (x + 1)) (σ.2.1 x 1))) (k + 1) (cI σ x 1 ((σ.2.1 x 1) + 1))) else (false, σ)))
def c_takeSegment (σ : cS) (x : Nat) (p : Nat) : Bool × cS := (c_takeSegmentL1 x p (4) 0 0 σ)
theorem t_takeSegmentL2 {l : Launch} {G : jG} {d : Nat} {σ : cS} {x : Nat} {p : Nat} {k : Int} (hw : wf σ) (hd : 4 ≤ d) (hx : kd x = 5) (hp : kd p = 2) (fu : Nat) (hk : 0 ≤ k ∧ k ≤ 120) (hv2 : σ.2.1 x 1 ≤ 80000003 + 121 * k) (hm : 120 - k < (fu : Int)) : CJ jCls jown l G (Yx mX5_takeSegment) d 0 0 63 [some (.ref x), some (.ref p), none, some (vi k), none] [] σ (det (some (vi (bz (c_takeSegmentL2 x p fu k σ).1))) (c_takeSegmentL2 x p fu k σ).2) := by
  induction fu generalizing σ k with
  | zero => exact absurd hm (by omega)
  | succ fu ih =>
    refine C_iload_n dX5_takeSegment_63 rfl ?_
    refine C_bipush dX5_takeSegment_64 (by decide) ?_
    refine C_icmp_ge (tgt := 122) dX5_takeSegment_66 (by decide) (by omega) (by omega) (fun c_66 => ?_) (fun c_66 => ?_)
    · refine C_aload_n dX5_takeSegment_122 rfl ?_
      refine C_get dX5_takeSegment_123 f_X5_14 (fun h hc => ⟨_, hc.2.2.2.2.1 _ hx, rfl⟩) ?_
      refine C_aload_n dX5_takeSegment_126 rfl ?_
      refine C_get dX5_takeSegment_127 f_X5_20 (fun h hc => ⟨_, hc.2.2.2.2.1 _ hx, rfl⟩) ?_
      have g_127 := hw.2.2.1 x 1
      refine D_callV (As := [vi _]) (d' := 0) (row_at hw (kX1 hx) (by omega)) dX5_takeSegment_130 v_X5_60 (fun h hc => ⟨_, (hc.1 _ (kX1 hx)).1⟩) rfl (Nat.le_of_ble_eq_true rfl) (by omega) (Nat.le_of_ble_eq_true rfl) ?_
      simp only [Option.toList, List.nil_append, List.cons_append]
      have r_130 := hw.ra2 (kX1 hx) (σ.2.1 x 1)
      refine C_aload_n dX5_takeSegment_133 rfl ?_
      refine C_get dX5_takeSegment_134 f_X5_33 (fun h hc => ⟨_, hc.2.2.2.2.1 _ hx, rfl⟩) ?_
      have g_134 := hw.2.2.1 x 5
      refine C_icmp_eq (tgt := 142) dX5_takeSegment_137 (by decide) (by omega) (by omega) (fun c_137 => ?_) (fun c_137 => ?_)
      · refine C_aload_n dX5_takeSegment_142 rfl ?_
        refine C_dup dX5_takeSegment_143 rfl ?_
        refine C_get dX5_takeSegment_144 f_X5_20 (fun h hc => ⟨_, hc.2.2.2.2.1 _ hx, rfl⟩) ?_
        have g_144 := hw.2.2.1 x 1
        refine C_iconst dX5_takeSegment_147 ?_
        refine C_iadd dX5_takeSegment_148 ?_
        refine C_put (σ' := (cI σ x 1 ((σ.2.1 x 1) + 1))) dX5_takeSegment_149 f_X5_20 jfit_i (ownX hx) (fun h hc => hc.putX1 hx) ?_
        have hw3 : wf (cI σ x 1 ((σ.2.1 x 1) + 1)) := wf_I hw (by omega)
        refine C_iconst dX5_takeSegment_152 ?_
        refine C_zret dX5_takeSegment_153 rfl (by first | exact Or.inl rfl | exact Or.inr rfl | exact bz_01 _) ?_
        unfold det; rw [c_takeSegmentL2, if_pos (by omega), if_pos (by omega)]; exact ⟨rfl, rfl⟩
      · refine C_iconst dX5_takeSegment_140 ?_
        refine C_zret dX5_takeSegment_141 rfl (by first | exact Or.inl rfl | exact Or.inr rfl | exact bz_01 _) ?_
        unfold det; rw [c_takeSegmentL2, if_pos (by omega), if_neg (by omega)]; exact ⟨rfl, rfl⟩
    · refine C_aload_n dX5_takeSegment_69 rfl ?_
      refine C_get dX5_takeSegment_70 f_X5_14 (fun h hc => ⟨_, hc.2.2.2.2.1 _ hx, rfl⟩) ?_
      refine C_aload_n dX5_takeSegment_73 rfl ?_
      refine C_get dX5_takeSegment_74 f_X5_20 (fun h hc => ⟨_, hc.2.2.2.2.1 _ hx, rfl⟩) ?_
      have g_74 := hw.2.2.1 x 1
      refine D_callV (As := [vi _]) (d' := 0) (row_at hw (kX1 hx) (by omega)) dX5_takeSegment_77 v_X5_60 (fun h hc => ⟨_, (hc.1 _ (kX1 hx)).1⟩) rfl (Nat.le_of_ble_eq_true rfl) (by omega) (Nat.le_of_ble_eq_true rfl) ?_
      simp only [Option.toList, List.nil_append, List.cons_append]
      have r_77 := hw.ra2 (kX1 hx) (σ.2.1 x 1)
      refine C_aload_n dX5_takeSegment_80 rfl ?_
      refine C_get dX5_takeSegment_81 f_X5_27 (fun h hc => ⟨_, hc.2.2.2.2.1 _ hx, rfl⟩) ?_
      have g_81 := hw.2.2.1 x 3
      refine C_icmp_ne (tgt := 122) dX5_takeSegment_84 (by decide) (by omega) (by omega) (fun c_84 => ?_) (fun c_84 => ?_)
      · refine C_aload_n dX5_takeSegment_122 rfl ?_
        refine C_get dX5_takeSegment_123 f_X5_14 (fun h hc => ⟨_, hc.2.2.2.2.1 _ hx, rfl⟩) ?_
        refine C_aload_n dX5_takeSegment_126 rfl ?_
        refine C_get dX5_takeSegment_127 f_X5_20 (fun h hc => ⟨_, hc.2.2.2.2.1 _ hx, rfl⟩) ?_
        have g_127 := hw.2.2.1 x 1
        refine D_callV (As := [vi _]) (d' := 0) (row_at hw (kX1 hx) (by omega)) dX5_takeSegment_130 v_X5_60 (fun h hc => ⟨_, (hc.1 _ (kX1 hx)).1⟩) rfl (Nat.le_of_ble_eq_true rfl) (by omega) (Nat.le_of_ble_eq_true rfl) ?_
        simp only [Option.toList, List.nil_append, List.cons_append]
        have r_130 := hw.ra2 (kX1 hx) (σ.2.1 x 1)
        refine C_aload_n dX5_takeSegment_133 rfl ?_
        refine C_get dX5_takeSegment_134 f_X5_33 (fun h hc => ⟨_, hc.2.2.2.2.1 _ hx, rfl⟩) ?_
        have g_134 := hw.2.2.1 x 5
        refine C_icmp_eq (tgt := 142) dX5_takeSegment_137 (by decide) (by omega) (by omega) (fun c_137 => ?_) (fun c_137 => ?_)
        · refine C_aload_n dX5_takeSegment_142 rfl ?_
          refine C_dup dX5_takeSegment_143 rfl ?_
          refine C_get dX5_takeSegment_144 f_X5_20 (fun h hc => ⟨_, hc.2.2.2.2.1 _ hx, rfl⟩) ?_
          have g_144 := hw.2.2.1 x 1
          refine C_iconst dX5_takeSegment_147 ?_
          refine C_iadd dX5_takeSegment_148 ?_
          refine C_put (σ' := (cI σ x 1 ((σ.2.1 x 1) + 1))) dX5_takeSegment_149 f_X5_20 jfit_i (ownX hx) (fun h hc => hc.putX1 hx) ?_
          have hw6 : wf (cI σ x 1 ((σ.2.1 x 1) + 1)) := wf_I hw (by omega)
          refine C_iconst dX5_takeSegment_152 ?_
          refine C_zret dX5_takeSegment_153 rfl (by first | exact Or.inl rfl | exact Or.inr rfl | exact bz_01 _) ?_
          unfold det; rw [c_takeSegmentL2, if_neg (by omega), if_neg (by omega), if_pos (by omega)]; exact ⟨rfl, rfl⟩
        · refine C_iconst dX5_takeSegment_140 ?_
          refine C_zret dX5_takeSegment_141 rfl (by first | exact Or.inl rfl | exact Or.inr rfl | exact bz_01 _) ?_
          unfold det; rw [c_takeSegmentL2, if_neg (by omega), if_neg (by omega), if_neg (by omega)]; exact ⟨rfl, rfl⟩
      · refine C_aload_n dX5_takeSegment_87 rfl ?_
        refine D_callV (As := []) (d' := 1) (t_isFull hw (Nat.le_refl _) hp) dX5_takeSegment_88 v_X5_80 (fun h hc => ⟨_, hc.2.1 _ hp⟩) rfl (Nat.le_of_ble_eq_true rfl) (by omega) (Nat.le_of_ble_eq_true rfl) ?_
        simp only [Option.toList, List.nil_append, List.cons_append]
        refine C_if_eqZ (tgt := 97) dX5_takeSegment_91 (by decide) (fun c_91 => ?_) (fun c_91 => ?_)
        · refine C_aload_n dX5_takeSegment_97 rfl ?_
          refine C_dup dX5_takeSegment_98 rfl ?_
          refine C_get dX5_takeSegment_99 f_X5_20 (fun h hc => ⟨_, hc.2.2.2.2.1 _ hx, rfl⟩) ?_
          have g_99 := hw.2.2.1 x 1
          refine C_iconst dX5_takeSegment_102 ?_
          refine C_iadd dX5_takeSegment_103 ?_
          refine C_put (σ' := (cI σ x 1 ((σ.2.1 x 1) + 1))) dX5_takeSegment_104 f_X5_20 jfit_i (ownX hx) (fun h hc => hc.putX1 hx) ?_
          have hw8 : wf (cI σ x 1 ((σ.2.1 x 1) + 1)) := wf_I hw (by omega)
          refine C_aload_n dX5_takeSegment_107 rfl ?_
          refine D_callV (As := []) (d' := 1) (t_addElement hw8 (Nat.le_refl _) hp) dX5_takeSegment_108 v_X5_83 (fun h hc => ⟨_, hc.2.1 _ hp⟩) rfl (Nat.le_of_ble_eq_true rfl) (by omega) (Nat.le_of_ble_eq_true rfl) ?_
          simp only [Option.toList, List.nil_append, List.cons_append]
          have hw9 : wf (c_addElement (cI σ x 1 ((σ.2.1 x 1) + 1)) p) := w_addElement hw8 hp
          refine C_aload_n dX5_takeSegment_111 rfl ?_
          refine C_aload_n dX5_takeSegment_112 rfl ?_
          refine D_callV (As := [.ref _]) (d' := 3) (t_takeElement hw9 (Nat.le_refl _) hx hp (by first | omega | (have g0 := hw9.2.2.1 x 1; omega) | (simp [cI, upI, i_addCharacter, i_addComponent, i_addElement, i_addSegment]; omega) | (simp [cI, upI, i_addCharacter, i_addComponent, i_addElement, i_addSegment]; done))) dX5_takeSegment_113 v_X5_86 (fun h hc => ⟨_, hc.2.2.2.2.1 _ hx⟩) rfl (Nat.le_of_ble_eq_true rfl) (by omega) (Nat.le_of_ble_eq_true rfl) ?_
          simp only [Option.toList, List.nil_append, List.cons_append]
          have hw10 : wf (c_takeElement (c_addElement (cI σ x 1 ((σ.2.1 x 1) + 1)) p) x p) := w_takeElement hw9 hx hp (by first | omega | (have g0 := hw9.2.2.1 x 1; omega) | (simp [cI, upI, i_addCharacter, i_addComponent, i_addElement, i_addSegment]; omega) | (simp [cI, upI, i_addCharacter, i_addComponent, i_addElement, i_addSegment]; done))
          have q_113 := b_takeElement (x := x) hw9 hx hp (by first | omega | (have g0 := hw9.2.2.1 x 1; omega) | (simp [cI, upI, i_addCharacter, i_addComponent, i_addElement, i_addSegment]; omega) | (simp [cI, upI, i_addCharacter, i_addComponent, i_addElement, i_addSegment]; done))
          try simp only [cI_at, i_addCharacter, i_addComponent, i_addElement, i_addSegment] at q_113
          refine C_iinc dX5_takeSegment_116 rfl (by decide) rfl ?_
          simp only [List.set_cons_zero, List.set_cons_succ]
          refine C_goto (tgt := 63) dX5_takeSegment_119 (by decide) ?_
          rw [c_takeSegmentL2, if_neg (by omega), if_pos (by omega), if_neg (by rw [c_91]; decide)]
          refine CJ.mono (ls' := [some (.ref x), some (.ref p), none, some (vi (k + 1)), none]) (lsub_ok (by repeat (first | exact trivial | refine ⟨rfl, ?_⟩))) (fun _ _ q => q) ?_
          exact ih hw10 (by omega) (by first | omega | (have g0 := hw10.2.2.1 x 1; omega) | (simp [cI, upI, i_addCharacter, i_addComponent, i_addElement, i_addSegment]; omega) | (simp [cI, upI, i_addCharacter, i_addComponent, i_addElement, i_addSegment]; done)) (by omega)
        · refine C_goto (tgt := 122) dX5_takeSegment_94 (by decide) ?_
          refine C_aload_n dX5_takeSegment_122 rfl ?_
          refine C_get dX5_takeSegment_123 f_X5_14 (fun h hc => ⟨_, hc.2.2.2.2.1 _ hx, rfl⟩) ?_
          refine C_aload_n dX5_takeSegment_126 rfl ?_
          refine C_get dX5_takeSegment_127 f_X5_20 (fun h hc => ⟨_, hc.2.2.2.2.1 _ hx, rfl⟩) ?_
          have g_127 := hw.2.2.1 x 1
          refine D_callV (As := [vi _]) (d' := 0) (row_at hw (kX1 hx) (by omega)) dX5_takeSegment_130 v_X5_60 (fun h hc => ⟨_, (hc.1 _ (kX1 hx)).1⟩) rfl (Nat.le_of_ble_eq_true rfl) (by omega) (Nat.le_of_ble_eq_true rfl) ?_
          simp only [Option.toList, List.nil_append, List.cons_append]
          have r_130 := hw.ra2 (kX1 hx) (σ.2.1 x 1)
          refine C_aload_n dX5_takeSegment_133 rfl ?_
          refine C_get dX5_takeSegment_134 f_X5_33 (fun h hc => ⟨_, hc.2.2.2.2.1 _ hx, rfl⟩) ?_
          have g_134 := hw.2.2.1 x 5
          refine C_icmp_eq (tgt := 142) dX5_takeSegment_137 (by decide) (by omega) (by omega) (fun c_137 => ?_) (fun c_137 => ?_)
          · refine C_aload_n dX5_takeSegment_142 rfl ?_
            refine C_dup dX5_takeSegment_143 rfl ?_
            refine C_get dX5_takeSegment_144 f_X5_20 (fun h hc => ⟨_, hc.2.2.2.2.1 _ hx, rfl⟩) ?_
            have g_144 := hw.2.2.1 x 1
            refine C_iconst dX5_takeSegment_147 ?_
            refine C_iadd dX5_takeSegment_148 ?_
            refine C_put (σ' := (cI σ x 1 ((σ.2.1 x 1) + 1))) dX5_takeSegment_149 f_X5_20 jfit_i (ownX hx) (fun h hc => hc.putX1 hx) ?_
            have hw12 : wf (cI σ x 1 ((σ.2.1 x 1) + 1)) := wf_I hw (by omega)
            refine C_iconst dX5_takeSegment_152 ?_
            refine C_zret dX5_takeSegment_153 rfl (by first | exact Or.inl rfl | exact Or.inr rfl | exact bz_01 _) ?_
            unfold det; rw [c_takeSegmentL2, if_neg (by omega), if_pos (by omega), if_pos c_91, if_pos (by omega)]; exact ⟨rfl, rfl⟩
          · refine C_iconst dX5_takeSegment_140 ?_
            refine C_zret dX5_takeSegment_141 rfl (by first | exact Or.inl rfl | exact Or.inr rfl | exact bz_01 _) ?_
            unfold det; rw [c_takeSegmentL2, if_neg (by omega), if_pos (by omega), if_pos c_91, if_neg (by omega)]; exact ⟨rfl, rfl⟩
theorem t_takeSegmentL1 {l : Launch} {G : jG} {d : Nat} {σ : cS} {x : Nat} {p : Nat} {v k : Int} (hw : wf σ) (hd : 4 ≤ d) (hx : kd x = 5) (hp : kd p = 2) (fu : Nat) (hv : 0 ≤ v ∧ v < 16777216) (hk : 0 ≤ k ∧ k ≤ 3) (hv3 : (k = 0 → v = 0) ∧ (k = 1 → v < 256) ∧ (k = 2 → v < 65536)) (hv2 : σ.2.1 x 1 ≤ 80000000 + k) (hm : 3 - k < (fu : Int)) : CJ jCls jown l G (Yx mX5_takeSegment) d 0 0 4 [some (.ref x), some (.ref p), some (vi v), some (vi k), none] [] σ (det (some (vi (bz (c_takeSegmentL1 x p fu v k σ).1))) (c_takeSegmentL1 x p fu v k σ).2) := by
  induction fu generalizing σ v k with
  | zero => exact absurd hm (by omega)
  | succ fu ih =>
    refine C_iload_n dX5_takeSegment_4 rfl ?_
    refine C_iconst dX5_takeSegment_5 ?_
    refine C_icmp_ge (tgt := 56) dX5_takeSegment_6 (by decide) (by omega) (by omega) (fun c_6 => ?_) (fun c_6 => ?_)
    · refine C_aload_n dX5_takeSegment_56 rfl ?_
      refine C_iload_n dX5_takeSegment_57 rfl ?_
      refine D_callV (As := [vi _]) (d' := 1) (t_addSegment hw (Nat.le_refl _) hp (by omega)) dX5_takeSegment_58 v_X5_77 (fun h hc => ⟨_, hc.2.1 _ hp⟩) rfl (Nat.le_of_ble_eq_true rfl) (by omega) (Nat.le_of_ble_eq_true rfl) ?_
      simp only [Option.toList, List.nil_append, List.cons_append]
      have hw2 : wf (c_addSegment σ p v) := w_addSegment hw hp (by omega)
      refine C_iconst dX5_takeSegment_61 ?_
      refine C_istore_n dX5_takeSegment_62 (by decide) rfl ?_
      simp only [List.set_cons_zero, List.set_cons_succ, jfin0, jfin1, jfin2, jfin3]
      rw [c_takeSegmentL1, if_pos (by omega)]
      refine CJ.mono (ls' := [some (.ref x), some (.ref p), none, some (vi 0), none]) (lsub_ok (by repeat (first | exact trivial | refine ⟨rfl, ?_⟩))) (fun _ _ q => q) ?_
      exact t_takeSegmentL2 hw2 hd hx hp (121) (by omega) (by first | omega | (have g0 := hw2.2.2.1 x 1; omega) | (simp [cI, upI, i_addCharacter, i_addComponent, i_addElement, i_addSegment]; omega) | (simp [cI, upI, i_addCharacter, i_addComponent, i_addElement, i_addSegment]; done)) (by omega)
    · refine C_aload_n dX5_takeSegment_9 rfl ?_
      refine C_get dX5_takeSegment_10 f_X5_14 (fun h hc => ⟨_, hc.2.2.2.2.1 _ hx, rfl⟩) ?_
      refine C_aload_n dX5_takeSegment_13 rfl ?_
      refine C_get dX5_takeSegment_14 f_X5_20 (fun h hc => ⟨_, hc.2.2.2.2.1 _ hx, rfl⟩) ?_
      have g_14 := hw.2.2.1 x 1
      refine D_callV (As := [vi _]) (d' := 0) (row_at hw (kX1 hx) (by omega)) dX5_takeSegment_17 v_X5_60 (fun h hc => ⟨_, (hc.1 _ (kX1 hx)).1⟩) rfl (Nat.le_of_ble_eq_true rfl) (by omega) (Nat.le_of_ble_eq_true rfl) ?_
      simp only [Option.toList, List.nil_append, List.cons_append]
      have r_17 := hw.ra2 (kX1 hx) (σ.2.1 x 1)
      refine C_istore dX5_takeSegment_20 (by decide) rfl ?_
      simp only [List.set_cons_zero, List.set_cons_succ, jfin0, jfin1, jfin2, jfin3]
      refine C_iload dX5_takeSegment_22 rfl ?_
      refine D_callSN (As := [vi _]) (d' := 0) (t_isCapital hw (Nat.le_refl _) (by omega)) dX5_takeSegment_24 s_X5_74 rfl (Nat.le_of_ble_eq_true rfl) (by omega) (Nat.le_of_ble_eq_true rfl) ?_
      simp only [Option.toList, List.nil_append, List.cons_append]
      refine C_if_neZ (tgt := 32) dX5_takeSegment_27 (by decide) (fun c_27 => ?_) (fun c_27 => ?_)
      · have b_27_3 := isCapital_t (σ := _) (c := (rat (σ.1 (x + 1)) (σ.2.1 x 1))) (by assumption)
        refine C_iload_n dX5_takeSegment_32 rfl ?_
        refine C_bipush dX5_takeSegment_33 (by decide) ?_
        refine C_ishl8 dX5_takeSegment_35 (by omega) (by omega) ?_
        refine C_iload dX5_takeSegment_36 rfl ?_
        refine C_ior8 dX5_takeSegment_38 (by omega) (by omega) (by omega) (by omega) ?_
        refine C_istore_n dX5_takeSegment_39 (by decide) rfl ?_
        simp only [List.set_cons_zero, List.set_cons_succ, jfin0, jfin1, jfin2, jfin3]
        refine C_aload_n dX5_takeSegment_40 rfl ?_
        refine C_dup dX5_takeSegment_41 rfl ?_
        refine C_get dX5_takeSegment_42 f_X5_20 (fun h hc => ⟨_, hc.2.2.2.2.1 _ hx, rfl⟩) ?_
        have g_42 := hw.2.2.1 x 1
        refine C_iconst dX5_takeSegment_45 ?_
        refine C_iadd dX5_takeSegment_46 ?_
        refine C_put (σ' := (cI σ x 1 ((σ.2.1 x 1) + 1))) dX5_takeSegment_47 f_X5_20 jfit_i (ownX hx) (fun h hc => hc.putX1 hx) ?_
        have hw4 : wf (cI σ x 1 ((σ.2.1 x 1) + 1)) := wf_I hw (by omega)
        refine C_iinc dX5_takeSegment_50 rfl (by decide) rfl ?_
        simp only [List.set_cons_zero, List.set_cons_succ]
        refine C_goto (tgt := 4) dX5_takeSegment_53 (by decide) ?_
        rw [c_takeSegmentL1, if_neg (by omega), if_pos c_27]
        refine CJ.mono (ls' := [some (.ref x), some (.ref p), some (vi ((v * 256) + (rat (σ.1 (x + 1)) (σ.2.1 x 1)))), some (vi (k + 1)), none]) (lsub_ok (by repeat (first | exact trivial | refine ⟨rfl, ?_⟩))) (fun _ _ q => q) ?_
        exact ih hw4 (by omega) (by omega) (by omega) (by first | omega | (have g0 := hw4.2.2.1 x 1; omega) | (simp [cI, upI, i_addCharacter, i_addComponent, i_addElement, i_addSegment]; omega) | (simp [cI, upI, i_addCharacter, i_addComponent, i_addElement, i_addSegment]; done)) (by omega)
      · refine C_iconst dX5_takeSegment_30 ?_
        refine C_zret dX5_takeSegment_31 rfl (by first | exact Or.inl rfl | exact Or.inr rfl | exact bz_01 _) ?_
        unfold det; rw [c_takeSegmentL1, if_neg (by omega), if_neg (by rw [c_27]; decide)]; exact ⟨rfl, rfl⟩
theorem t_takeSegment {l : Launch} {G : jG} {d : Nat} {σ : cS} {x : Nat} {p : Nat} (hw : wf σ) (hd : 4 ≤ d) (hx : kd x = 5) (hp : kd p = 2) (hv2 : σ.2.1 x 1 ≤ 80000000) : CJ jCls jown l G (Yx mX5_takeSegment) d 0 0 0 [some (.ref x), some (.ref p), none, none, none] [] σ (det (some (vi (bz (c_takeSegment σ x p).1))) (c_takeSegment σ x p).2) := by
  refine C_iconst dX5_takeSegment_0 ?_
  refine C_istore_n dX5_takeSegment_1 (by decide) rfl ?_
  simp only [List.set_cons_zero, List.set_cons_succ, jfin0, jfin1, jfin2, jfin3]
  refine C_iconst dX5_takeSegment_2 ?_
  refine C_istore_n dX5_takeSegment_3 (by decide) rfl ?_
  simp only [List.set_cons_zero, List.set_cons_succ, jfin0, jfin1, jfin2, jfin3]
  rw [c_takeSegment]
  refine CJ.mono (ls' := [some (.ref x), some (.ref p), some (vi 0), some (vi 0), none]) (lsub_ok (by repeat (first | exact trivial | refine ⟨rfl, ?_⟩))) (fun _ _ q => q) ?_
  exact t_takeSegmentL1 hw hd hx hp (4) (by omega) (by omega) (by omega) (by first | omega | (have g0 := hw.2.2.1 x 1; omega) | (simp [cI, upI, i_addCharacter, i_addComponent, i_addElement, i_addSegment]; omega) | (simp [cI, upI, i_addCharacter, i_addComponent, i_addElement, i_addSegment]; done)) (by omega)
theorem w_takeSegmentL2 {σ : cS} {x : Nat} {p : Nat} {k : Int} (hw : wf σ) (hx : kd x = 5) (hp : kd p = 2) (fu : Nat) (hk : 0 ≤ k ∧ k ≤ 120) (hv2 : σ.2.1 x 1 ≤ 80000003 + 121 * k) : wf (c_takeSegmentL2 x p fu k σ).2 := by
  induction fu generalizing σ k with
  | zero => exact hw
  | succ fu ih =>
    unfold c_takeSegmentL2
    split
    · split
      · have g_127 := hw.2.2.1 x 1
        have r_130 := hw.ra2 (kX1 hx) (σ.2.1 x 1)
        have g_134 := hw.2.2.1 x 5
        have g_144 := hw.2.2.1 x 1
        have hw3 : wf (cI σ x 1 ((σ.2.1 x 1) + 1)) := wf_I hw (by omega)
        exact hw3
      · have g_127 := hw.2.2.1 x 1
        have r_130 := hw.ra2 (kX1 hx) (σ.2.1 x 1)
        have g_134 := hw.2.2.1 x 5
        exact hw
    · split
      · split
        · split
          · have g_74 := hw.2.2.1 x 1
            have r_77 := hw.ra2 (kX1 hx) (σ.2.1 x 1)
            have g_81 := hw.2.2.1 x 3
            have g_127 := hw.2.2.1 x 1
            have r_130 := hw.ra2 (kX1 hx) (σ.2.1 x 1)
            have g_134 := hw.2.2.1 x 5
            have g_144 := hw.2.2.1 x 1
            have hw12 : wf (cI σ x 1 ((σ.2.1 x 1) + 1)) := wf_I hw (by omega)
            exact hw12
          · have g_74 := hw.2.2.1 x 1
            have r_77 := hw.ra2 (kX1 hx) (σ.2.1 x 1)
            have g_81 := hw.2.2.1 x 3
            have g_127 := hw.2.2.1 x 1
            have r_130 := hw.ra2 (kX1 hx) (σ.2.1 x 1)
            have g_134 := hw.2.2.1 x 5
            exact hw
        · have g_74 := hw.2.2.1 x 1
          have r_77 := hw.ra2 (kX1 hx) (σ.2.1 x 1)
          have g_81 := hw.2.2.1 x 3
          have g_99 := hw.2.2.1 x 1
          have hw8 : wf (cI σ x 1 ((σ.2.1 x 1) + 1)) := wf_I hw (by omega)
          have hw9 : wf (c_addElement (cI σ x 1 ((σ.2.1 x 1) + 1)) p) := w_addElement hw8 hp
          have hw10 : wf (c_takeElement (c_addElement (cI σ x 1 ((σ.2.1 x 1) + 1)) p) x p) := w_takeElement hw9 hx hp (by first | omega | (have g0 := hw9.2.2.1 x 1; omega) | (simp [cI, upI, i_addCharacter, i_addComponent, i_addElement, i_addSegment]; omega) | (simp [cI, upI, i_addCharacter, i_addComponent, i_addElement, i_addSegment]; done))
          have q_113 := b_takeElement (x := x) hw9 hx hp (by first | omega | (have g0 := hw9.2.2.1 x 1; omega) | (simp [cI, upI, i_addCharacter, i_addComponent, i_addElement, i_addSegment]; omega) | (simp [cI, upI, i_addCharacter, i_addComponent, i_addElement, i_addSegment]; done))
          try simp only [cI_at, i_addCharacter, i_addComponent, i_addElement, i_addSegment] at q_113
          exact ih hw10 (by omega) (by first | omega | (have g0 := hw10.2.2.1 x 1; omega) | (simp [cI, upI, i_addCharacter, i_addComponent, i_addElement, i_addSegment]; omega) | (simp [cI, upI, i_addCharacter, i_addComponent, i_addElement, i_addSegment]; done))
      · split
        · have g_74 := hw.2.2.1 x 1
          have r_77 := hw.ra2 (kX1 hx) (σ.2.1 x 1)
          have g_81 := hw.2.2.1 x 3
          have g_127 := hw.2.2.1 x 1
          have r_130 := hw.ra2 (kX1 hx) (σ.2.1 x 1)
          have g_134 := hw.2.2.1 x 5
          have g_144 := hw.2.2.1 x 1
          have hw6 : wf (cI σ x 1 ((σ.2.1 x 1) + 1)) := wf_I hw (by omega)
          exact hw6
        · have g_74 := hw.2.2.1 x 1
          have r_77 := hw.ra2 (kX1 hx) (σ.2.1 x 1)
          have g_81 := hw.2.2.1 x 3
          have g_127 := hw.2.2.1 x 1
          have r_130 := hw.ra2 (kX1 hx) (σ.2.1 x 1)
          have g_134 := hw.2.2.1 x 5
          exact hw
theorem w_takeSegmentL1 {σ : cS} {x : Nat} {p : Nat} {v k : Int} (hw : wf σ) (hx : kd x = 5) (hp : kd p = 2) (fu : Nat) (hv : 0 ≤ v ∧ v < 16777216) (hk : 0 ≤ k ∧ k ≤ 3) (hv3 : (k = 0 → v = 0) ∧ (k = 1 → v < 256) ∧ (k = 2 → v < 65536)) (hv2 : σ.2.1 x 1 ≤ 80000000 + k) : wf (c_takeSegmentL1 x p fu v k σ).2 := by
  induction fu generalizing σ v k with
  | zero => exact hw
  | succ fu ih =>
    unfold c_takeSegmentL1
    split
    · have hw2 : wf (c_addSegment σ p v) := w_addSegment hw hp (by omega)
      exact w_takeSegmentL2 hw2 hx hp (121) (by omega) (by first | omega | (have g0 := hw2.2.2.1 x 1; omega) | (simp [cI, upI, i_addCharacter, i_addComponent, i_addElement, i_addSegment]; omega) | (simp [cI, upI, i_addCharacter, i_addComponent, i_addElement, i_addSegment]; done))
    · split
      · have g_14 := hw.2.2.1 x 1
        have r_17 := hw.ra2 (kX1 hx) (σ.2.1 x 1)
        have b_27_3 := isCapital_t (σ := _) (c := (rat (σ.1 (x + 1)) (σ.2.1 x 1))) (by assumption)
        have g_42 := hw.2.2.1 x 1
        have hw4 : wf (cI σ x 1 ((σ.2.1 x 1) + 1)) := wf_I hw (by omega)
        exact ih hw4 (by omega) (by omega) (by omega) (by first | omega | (have g0 := hw4.2.2.1 x 1; omega) | (simp [cI, upI, i_addCharacter, i_addComponent, i_addElement, i_addSegment]; omega) | (simp [cI, upI, i_addCharacter, i_addComponent, i_addElement, i_addSegment]; done))
      · have g_14 := hw.2.2.1 x 1
        have r_17 := hw.ra2 (kX1 hx) (σ.2.1 x 1)
        exact hw
theorem w_takeSegment {σ : cS} {x : Nat} {p : Nat} (hw : wf σ) (hx : kd x = 5) (hp : kd p = 2) (hv2 : σ.2.1 x 1 ≤ 80000000) : wf (c_takeSegment σ x p).2 := by
  unfold c_takeSegment
  exact w_takeSegmentL1 hw hx hp (4) (by omega) (by omega) (by omega) (by first | omega | (have g0 := hw.2.2.1 x 1; omega) | (simp [cI, upI, i_addCharacter, i_addComponent, i_addElement, i_addSegment]; omega) | (simp [cI, upI, i_addCharacter, i_addComponent, i_addElement, i_addSegment]; done))
theorem b_takeSegmentL2 {σ : cS} {x : Nat} {p : Nat} {k : Int} (hw : wf σ) (hx : kd x = 5) (hp : kd p = 2) (fu : Nat) (hk : 0 ≤ k ∧ k ≤ 120) (hv2 : σ.2.1 x 1 ≤ 80000003 + 121 * k) : (c_takeSegmentL2 x p fu k σ).2.2.1 x 1 ≤ max (σ.2.1 x 1) 2002 + (14521 - 121 * k) := by
  induction fu generalizing σ k with
  | zero => unfold c_takeSegmentL2; show σ.2.1 x 1 ≤ _; omega
  | succ fu ih =>
    unfold c_takeSegmentL2
    split
    · split
      · have g_127 := hw.2.2.1 x 1
        have r_130 := hw.ra2 (kX1 hx) (σ.2.1 x 1)
        have g_134 := hw.2.2.1 x 5
        have g_144 := hw.2.2.1 x 1
        have hw3 : wf (cI σ x 1 ((σ.2.1 x 1) + 1)) := wf_I hw (by omega)
        first | omega | (simp [cI, upI, i_addCharacter, i_addComponent, i_addElement, i_addSegment]; omega) | (simp [cI, upI, i_addCharacter, i_addComponent, i_addElement, i_addSegment]; done)
      · have g_127 := hw.2.2.1 x 1
        have r_130 := hw.ra2 (kX1 hx) (σ.2.1 x 1)
        have g_134 := hw.2.2.1 x 5
        first | omega | (simp [cI, upI, i_addCharacter, i_addComponent, i_addElement, i_addSegment]; omega) | (simp [cI, upI, i_addCharacter, i_addComponent, i_addElement, i_addSegment]; done)
    · split
      · split
        · split
          · have g_74 := hw.2.2.1 x 1
            have r_77 := hw.ra2 (kX1 hx) (σ.2.1 x 1)
            have g_81 := hw.2.2.1 x 3
            have g_127 := hw.2.2.1 x 1
            have r_130 := hw.ra2 (kX1 hx) (σ.2.1 x 1)
            have g_134 := hw.2.2.1 x 5
            have g_144 := hw.2.2.1 x 1
            have hw12 : wf (cI σ x 1 ((σ.2.1 x 1) + 1)) := wf_I hw (by omega)
            first | omega | (simp [cI, upI, i_addCharacter, i_addComponent, i_addElement, i_addSegment]; omega) | (simp [cI, upI, i_addCharacter, i_addComponent, i_addElement, i_addSegment]; done)
          · have g_74 := hw.2.2.1 x 1
            have r_77 := hw.ra2 (kX1 hx) (σ.2.1 x 1)
            have g_81 := hw.2.2.1 x 3
            have g_127 := hw.2.2.1 x 1
            have r_130 := hw.ra2 (kX1 hx) (σ.2.1 x 1)
            have g_134 := hw.2.2.1 x 5
            first | omega | (simp [cI, upI, i_addCharacter, i_addComponent, i_addElement, i_addSegment]; omega) | (simp [cI, upI, i_addCharacter, i_addComponent, i_addElement, i_addSegment]; done)
        · have g_74 := hw.2.2.1 x 1
          have r_77 := hw.ra2 (kX1 hx) (σ.2.1 x 1)
          have g_81 := hw.2.2.1 x 3
          have g_99 := hw.2.2.1 x 1
          have hw8 : wf (cI σ x 1 ((σ.2.1 x 1) + 1)) := wf_I hw (by omega)
          have hw9 : wf (c_addElement (cI σ x 1 ((σ.2.1 x 1) + 1)) p) := w_addElement hw8 hp
          have hw10 : wf (c_takeElement (c_addElement (cI σ x 1 ((σ.2.1 x 1) + 1)) p) x p) := w_takeElement hw9 hx hp (by first | omega | (have g0 := hw9.2.2.1 x 1; omega) | (simp [cI, upI, i_addCharacter, i_addComponent, i_addElement, i_addSegment]; omega) | (simp [cI, upI, i_addCharacter, i_addComponent, i_addElement, i_addSegment]; done))
          have q_113 := b_takeElement (x := x) hw9 hx hp (by first | omega | (have g0 := hw9.2.2.1 x 1; omega) | (simp [cI, upI, i_addCharacter, i_addComponent, i_addElement, i_addSegment]; omega) | (simp [cI, upI, i_addCharacter, i_addComponent, i_addElement, i_addSegment]; done))
          try simp only [cI_at, i_addCharacter, i_addComponent, i_addElement, i_addSegment] at q_113
          refine Int.le_trans (ih hw10 (by omega) (by first | omega | (have g0 := hw10.2.2.1 x 1; omega) | (simp [cI, upI, i_addCharacter, i_addComponent, i_addElement, i_addSegment]; omega) | (simp [cI, upI, i_addCharacter, i_addComponent, i_addElement, i_addSegment]; done))) ?_; first | omega | (simp only [cI_at, i_addCharacter, i_addComponent, i_addElement, i_addSegment]; omega)
      · split
        · have g_74 := hw.2.2.1 x 1
          have r_77 := hw.ra2 (kX1 hx) (σ.2.1 x 1)
          have g_81 := hw.2.2.1 x 3
          have g_127 := hw.2.2.1 x 1
          have r_130 := hw.ra2 (kX1 hx) (σ.2.1 x 1)
          have g_134 := hw.2.2.1 x 5
          have g_144 := hw.2.2.1 x 1
          have hw6 : wf (cI σ x 1 ((σ.2.1 x 1) + 1)) := wf_I hw (by omega)
          first | omega | (simp [cI, upI, i_addCharacter, i_addComponent, i_addElement, i_addSegment]; omega) | (simp [cI, upI, i_addCharacter, i_addComponent, i_addElement, i_addSegment]; done)
        · have g_74 := hw.2.2.1 x 1
          have r_77 := hw.ra2 (kX1 hx) (σ.2.1 x 1)
          have g_81 := hw.2.2.1 x 3
          have g_127 := hw.2.2.1 x 1
          have r_130 := hw.ra2 (kX1 hx) (σ.2.1 x 1)
          have g_134 := hw.2.2.1 x 5
          first | omega | (simp [cI, upI, i_addCharacter, i_addComponent, i_addElement, i_addSegment]; omega) | (simp [cI, upI, i_addCharacter, i_addComponent, i_addElement, i_addSegment]; done)
theorem b_takeSegmentL1 {σ : cS} {x : Nat} {p : Nat} {v k : Int} (hw : wf σ) (hx : kd x = 5) (hp : kd p = 2) (fu : Nat) (hv : 0 ≤ v ∧ v < 16777216) (hk : 0 ≤ k ∧ k ≤ 3) (hv3 : (k = 0 → v = 0) ∧ (k = 1 → v < 256) ∧ (k = 2 → v < 65536)) (hv2 : σ.2.1 x 1 ≤ 80000000 + k) : (c_takeSegmentL1 x p fu v k σ).2.2.1 x 1 ≤ max (σ.2.1 x 1) 2002 + (14527 - k) := by
  induction fu generalizing σ v k with
  | zero => unfold c_takeSegmentL1; show σ.2.1 x 1 ≤ _; omega
  | succ fu ih =>
    unfold c_takeSegmentL1
    split
    · have hw2 : wf (c_addSegment σ p v) := w_addSegment hw hp (by omega)
      refine Int.le_trans (b_takeSegmentL2 hw2 hx hp (121) (by omega) (by first | omega | (have g0 := hw2.2.2.1 x 1; omega) | (simp [cI, upI, i_addCharacter, i_addComponent, i_addElement, i_addSegment]; omega) | (simp [cI, upI, i_addCharacter, i_addComponent, i_addElement, i_addSegment]; done))) ?_; first | omega | (simp only [cI_at, i_addCharacter, i_addComponent, i_addElement, i_addSegment]; omega)
    · split
      · have g_14 := hw.2.2.1 x 1
        have r_17 := hw.ra2 (kX1 hx) (σ.2.1 x 1)
        have b_27_3 := isCapital_t (σ := _) (c := (rat (σ.1 (x + 1)) (σ.2.1 x 1))) (by assumption)
        have g_42 := hw.2.2.1 x 1
        have hw4 : wf (cI σ x 1 ((σ.2.1 x 1) + 1)) := wf_I hw (by omega)
        refine Int.le_trans (ih hw4 (by omega) (by omega) (by omega) (by first | omega | (have g0 := hw4.2.2.1 x 1; omega) | (simp [cI, upI, i_addCharacter, i_addComponent, i_addElement, i_addSegment]; omega) | (simp [cI, upI, i_addCharacter, i_addComponent, i_addElement, i_addSegment]; done))) ?_; first | omega | (simp only [cI_at, i_addCharacter, i_addComponent, i_addElement, i_addSegment]; omega)
      · have g_14 := hw.2.2.1 x 1
        have r_17 := hw.ra2 (kX1 hx) (σ.2.1 x 1)
        first | omega | (simp [cI, upI, i_addCharacter, i_addComponent, i_addElement, i_addSegment]; omega) | (simp [cI, upI, i_addCharacter, i_addComponent, i_addElement, i_addSegment]; done)
theorem b_takeSegment {σ : cS} {x : Nat} {p : Nat} (hw : wf σ) (hx : kd x = 5) (hp : kd p = 2) (hv2 : σ.2.1 x 1 ≤ 80000000) : (c_takeSegment σ x p).2.2.1 x 1 ≤ max (σ.2.1 x 1) 2002 + (14527) := by
  unfold c_takeSegment
  refine Int.le_trans (b_takeSegmentL1 hw hx hp (4) (by omega) (by omega) (by omega) (by first | omega | (have g0 := hw.2.2.1 x 1; omega) | (simp [cI, upI, i_addCharacter, i_addComponent, i_addElement, i_addSegment]; omega) | (simp [cI, upI, i_addCharacter, i_addComponent, i_addElement, i_addSegment]; done))) ?_; first | omega | (simp only [cI_at, i_addCharacter, i_addComponent, i_addElement, i_addSegment]; omega)
def c_takeApartL (x : Nat) (p : Nat) : Nat → Int → cS → Int × cS
  | 0, _, σ => (0, σ)
  | fu + 1, s, σ => (if 40 ≤ s then (if (σ.1 (x + 1)).length ≤ (σ.2.1 x 1) then ((-1), (c_finish σ p)) else ((σ.2.1 x 1), σ)) else (if s = 0 then (if (c_takeSegment σ x p).1 = true then (c_takeApartL x p fu (s + 1) (c_takeSegment σ x p).2) else (((c_takeSegment σ x p).2.2.1 x 1), (c_takeSegment σ x p).2)) else (if (σ.1 (x + 1)).length ≤ (σ.2.1 x 1) then ((-1), (c_finish σ p)) else (if (c_takeSegment σ x p).1 = true then (c_takeApartL x p fu (s + 1) (c_takeSegment σ x p).2) else (((c_takeSegment σ x p).2.2.1 x 1), (c_takeSegment σ x p).2)))))
def c_takeApart (σ : cS) (x : Nat) (p : Nat) : Int × cS := (if (c_takeMarks (cI (c_pempty σ p) x 1 0) x).1 = true then (c_takeApartL x p (41) 0 (c_takeMarks (cI (c_pempty σ p) x 1 0) x).2) else (((c_takeMarks (cI (c_pempty σ p) x 1 0) x).2.2.1 x 1), (c_takeMarks (cI (c_pempty σ p) x 1 0) x).2))
theorem t_takeApartL {l : Launch} {G : jG} {d : Nat} {σ : cS} {x : Nat} {p : Nat} {s : Int} (hw : wf σ) (hd : 5 ≤ d) (hx : kd x = 5) (hp : kd p = 2) (fu : Nat) (hs : 0 ≤ s ∧ s ≤ 40) (hv2 : σ.2.1 x 1 ≤ 2002 + 14527 * s) (hm : 40 - s < (fu : Int)) : CJ jCls jown l G (Yx mX5_takeApart) d 0 0 23 [some (.ref x), some (.ref p), some (vi s)] [] σ (det (some (vi (c_takeApartL x p fu s σ).1)) (c_takeApartL x p fu s σ).2) := by
  induction fu generalizing σ s with
  | zero => exact absurd hm (by omega)
  | succ fu ih =>
    refine C_iload_n dX5_takeApart_23 rfl ?_
    refine C_bipush dX5_takeApart_24 (by decide) ?_
    refine C_icmp_ge (tgt := 66) dX5_takeApart_26 (by decide) (by omega) (by omega) (fun c_26 => ?_) (fun c_26 => ?_)
    · refine C_aload_n dX5_takeApart_66 rfl ?_
      refine C_get dX5_takeApart_67 f_X5_20 (fun h hc => ⟨_, hc.2.2.2.2.1 _ hx, rfl⟩) ?_
      have g_67 := hw.2.2.1 x 1
      refine C_aload_n dX5_takeApart_70 rfl ?_
      refine C_get dX5_takeApart_71 f_X5_14 (fun h hc => ⟨_, hc.2.2.2.2.1 _ hx, rfl⟩) ?_
      refine D_callV (As := []) (d' := 0) (row_size hw (kX1 hx)) dX5_takeApart_74 v_X5_36 (fun h hc => ⟨_, (hc.1 _ (kX1 hx)).1⟩) rfl (Nat.le_of_ble_eq_true rfl) (by omega) (Nat.le_of_ble_eq_true rfl) ?_
      simp only [Option.toList, List.nil_append, List.cons_append]
      have r_74 := hw.len (kX1 hx)
      refine C_icmp_ge (tgt := 85) dX5_takeApart_77 (by decide) (by omega) (by omega) (fun c_77 => ?_) (fun c_77 => ?_)
      · refine C_aload_n dX5_takeApart_85 rfl ?_
        refine D_callV (As := []) (d' := 1) (t_finish hw (Nat.le_refl _) hp) dX5_takeApart_86 v_X5_57 (fun h hc => ⟨_, hc.2.1 _ hp⟩) rfl (Nat.le_of_ble_eq_true rfl) (by omega) (Nat.le_of_ble_eq_true rfl) ?_
        simp only [Option.toList, List.nil_append, List.cons_append]
        have hw3 : wf (c_finish σ p) := w_finish hw hp
        refine C_iconst dX5_takeApart_89 ?_
        refine C_iret dX5_takeApart_90 rfl ?_
        unfold det; rw [c_takeApartL, if_pos (by omega), if_pos (by omega)]; exact ⟨rfl, rfl⟩
      · refine C_aload_n dX5_takeApart_80 rfl ?_
        refine C_get dX5_takeApart_81 f_X5_20 (fun h hc => ⟨_, hc.2.2.2.2.1 _ hx, rfl⟩) ?_
        have g_81 := hw.2.2.1 x 1
        refine C_iret dX5_takeApart_84 rfl ?_
        unfold det; rw [c_takeApartL, if_pos (by omega), if_neg (by omega)]; exact ⟨rfl, rfl⟩
    · refine C_iload_n dX5_takeApart_29 rfl ?_
      refine C_if_eq (tgt := 47) dX5_takeApart_30 (by decide) (by omega) (fun c_30 => ?_) (fun c_30 => ?_)
      · refine C_aload_n dX5_takeApart_47 rfl ?_
        refine C_aload_n dX5_takeApart_48 rfl ?_
        refine D_callV (As := [.ref _]) (d' := 4) (t_takeSegment hw (Nat.le_refl _) hx hp (by first | omega | (have g0 := hw.2.2.1 x 1; omega) | (simp [cI, upI, i_addCharacter, i_addComponent, i_addElement, i_addSegment]; omega) | (simp [cI, upI, i_addCharacter, i_addComponent, i_addElement, i_addSegment]; done))) dX5_takeApart_49 v_X5_53 (fun h hc => ⟨_, hc.2.2.2.2.1 _ hx⟩) rfl (Nat.le_of_ble_eq_true rfl) (by omega) (Nat.le_of_ble_eq_true rfl) ?_
        simp only [Option.toList, List.nil_append, List.cons_append]
        have hw5 : wf (c_takeSegment σ x p).2 := w_takeSegment hw hx hp (by first | omega | (have g0 := hw.2.2.1 x 1; omega) | (simp [cI, upI, i_addCharacter, i_addComponent, i_addElement, i_addSegment]; omega) | (simp [cI, upI, i_addCharacter, i_addComponent, i_addElement, i_addSegment]; done))
        have q_49 := b_takeSegment (x := x) hw hx hp (by first | omega | (have g0 := hw.2.2.1 x 1; omega) | (simp [cI, upI, i_addCharacter, i_addComponent, i_addElement, i_addSegment]; omega) | (simp [cI, upI, i_addCharacter, i_addComponent, i_addElement, i_addSegment]; done))
        try simp only [cI_at, i_addCharacter, i_addComponent, i_addElement, i_addSegment] at q_49
        refine C_if_neZ (tgt := 60) dX5_takeApart_52 (by decide) (fun c_52 => ?_) (fun c_52 => ?_)
        · refine C_iinc dX5_takeApart_60 rfl (by decide) rfl ?_
          simp only [List.set_cons_zero, List.set_cons_succ]
          refine C_goto (tgt := 23) dX5_takeApart_63 (by decide) ?_
          rw [c_takeApartL, if_neg (by omega), if_pos (by omega), if_pos c_52]
          refine CJ.mono (ls' := [some (.ref x), some (.ref p), some (vi (s + 1))]) (lsub_ok (by repeat (first | exact trivial | refine ⟨rfl, ?_⟩))) (fun _ _ q => q) ?_
          exact ih hw5 (by omega) (by first | omega | (have g0 := hw5.2.2.1 x 1; omega) | (simp [cI, upI, i_addCharacter, i_addComponent, i_addElement, i_addSegment]; omega) | (simp [cI, upI, i_addCharacter, i_addComponent, i_addElement, i_addSegment]; done)) (by omega)
        · refine C_aload_n dX5_takeApart_55 rfl ?_
          refine C_get dX5_takeApart_56 f_X5_20 (fun h hc => ⟨_, hc.2.2.2.2.1 _ hx, rfl⟩) ?_
          have g_56 := hw5.2.2.1 x 1
          refine C_iret dX5_takeApart_59 rfl ?_
          unfold det; rw [c_takeApartL, if_neg (by omega), if_pos (by omega), if_neg (by rw [c_52]; decide)]; exact ⟨rfl, rfl⟩
      · refine C_aload_n dX5_takeApart_33 rfl ?_
        refine C_get dX5_takeApart_34 f_X5_20 (fun h hc => ⟨_, hc.2.2.2.2.1 _ hx, rfl⟩) ?_
        have g_34 := hw.2.2.1 x 1
        refine C_aload_n dX5_takeApart_37 rfl ?_
        refine C_get dX5_takeApart_38 f_X5_14 (fun h hc => ⟨_, hc.2.2.2.2.1 _ hx, rfl⟩) ?_
        refine D_callV (As := []) (d' := 0) (row_size hw (kX1 hx)) dX5_takeApart_41 v_X5_36 (fun h hc => ⟨_, (hc.1 _ (kX1 hx)).1⟩) rfl (Nat.le_of_ble_eq_true rfl) (by omega) (Nat.le_of_ble_eq_true rfl) ?_
        simp only [Option.toList, List.nil_append, List.cons_append]
        have r_41 := hw.len (kX1 hx)
        refine C_icmp_ge (tgt := 66) dX5_takeApart_44 (by decide) (by omega) (by omega) (fun c_44 => ?_) (fun c_44 => ?_)
        · refine C_aload_n dX5_takeApart_66 rfl ?_
          refine C_get dX5_takeApart_67 f_X5_20 (fun h hc => ⟨_, hc.2.2.2.2.1 _ hx, rfl⟩) ?_
          have g_67 := hw.2.2.1 x 1
          refine C_aload_n dX5_takeApart_70 rfl ?_
          refine C_get dX5_takeApart_71 f_X5_14 (fun h hc => ⟨_, hc.2.2.2.2.1 _ hx, rfl⟩) ?_
          refine D_callV (As := []) (d' := 0) (row_size hw (kX1 hx)) dX5_takeApart_74 v_X5_36 (fun h hc => ⟨_, (hc.1 _ (kX1 hx)).1⟩) rfl (Nat.le_of_ble_eq_true rfl) (by omega) (Nat.le_of_ble_eq_true rfl) ?_
          simp only [Option.toList, List.nil_append, List.cons_append]
          have r_74 := hw.len (kX1 hx)
          refine C_icmp_ge (tgt := 85) dX5_takeApart_77 (by decide) (by omega) (by omega) (fun c_77 => ?_) (fun c_77 => absurd c_77 (by omega))
          refine C_aload_n dX5_takeApart_85 rfl ?_
          refine D_callV (As := []) (d' := 1) (t_finish hw (Nat.le_refl _) hp) dX5_takeApart_86 v_X5_57 (fun h hc => ⟨_, hc.2.1 _ hp⟩) rfl (Nat.le_of_ble_eq_true rfl) (by omega) (Nat.le_of_ble_eq_true rfl) ?_
          simp only [Option.toList, List.nil_append, List.cons_append]
          have hw9 : wf (c_finish σ p) := w_finish hw hp
          refine C_iconst dX5_takeApart_89 ?_
          refine C_iret dX5_takeApart_90 rfl ?_
          unfold det; rw [c_takeApartL, if_neg (by omega), if_neg (by omega), if_pos (by omega)]; exact ⟨rfl, rfl⟩
        · refine C_aload_n dX5_takeApart_47 rfl ?_
          refine C_aload_n dX5_takeApart_48 rfl ?_
          refine D_callV (As := [.ref _]) (d' := 4) (t_takeSegment hw (Nat.le_refl _) hx hp (by first | omega | (have g0 := hw.2.2.1 x 1; omega) | (simp [cI, upI, i_addCharacter, i_addComponent, i_addElement, i_addSegment]; omega) | (simp [cI, upI, i_addCharacter, i_addComponent, i_addElement, i_addSegment]; done))) dX5_takeApart_49 v_X5_53 (fun h hc => ⟨_, hc.2.2.2.2.1 _ hx⟩) rfl (Nat.le_of_ble_eq_true rfl) (by omega) (Nat.le_of_ble_eq_true rfl) ?_
          simp only [Option.toList, List.nil_append, List.cons_append]
          have hw10 : wf (c_takeSegment σ x p).2 := w_takeSegment hw hx hp (by first | omega | (have g0 := hw.2.2.1 x 1; omega) | (simp [cI, upI, i_addCharacter, i_addComponent, i_addElement, i_addSegment]; omega) | (simp [cI, upI, i_addCharacter, i_addComponent, i_addElement, i_addSegment]; done))
          have q_49 := b_takeSegment (x := x) hw hx hp (by first | omega | (have g0 := hw.2.2.1 x 1; omega) | (simp [cI, upI, i_addCharacter, i_addComponent, i_addElement, i_addSegment]; omega) | (simp [cI, upI, i_addCharacter, i_addComponent, i_addElement, i_addSegment]; done))
          try simp only [cI_at, i_addCharacter, i_addComponent, i_addElement, i_addSegment] at q_49
          refine C_if_neZ (tgt := 60) dX5_takeApart_52 (by decide) (fun c_52 => ?_) (fun c_52 => ?_)
          · refine C_iinc dX5_takeApart_60 rfl (by decide) rfl ?_
            simp only [List.set_cons_zero, List.set_cons_succ]
            refine C_goto (tgt := 23) dX5_takeApart_63 (by decide) ?_
            rw [c_takeApartL, if_neg (by omega), if_neg (by omega), if_neg (by omega), if_pos c_52]
            refine CJ.mono (ls' := [some (.ref x), some (.ref p), some (vi (s + 1))]) (lsub_ok (by repeat (first | exact trivial | refine ⟨rfl, ?_⟩))) (fun _ _ q => q) ?_
            exact ih hw10 (by omega) (by first | omega | (have g0 := hw10.2.2.1 x 1; omega) | (simp [cI, upI, i_addCharacter, i_addComponent, i_addElement, i_addSegment]; omega) | (simp [cI, upI, i_addCharacter, i_addComponent, i_addElement, i_addSegment]; done)) (by omega)
          · refine C_aload_n dX5_takeApart_55 rfl ?_
            refine C_get dX5_takeApart_56 f_X5_20 (fun h hc => ⟨_, hc.2.2.2.2.1 _ hx, rfl⟩) ?_
            have g_56 := hw10.2.2.1 x 1
            refine C_iret dX5_takeApart_59 rfl ?_
            unfold det; rw [c_takeApartL, if_neg (by omega), if_neg (by omega), if_neg (by omega), if_neg (by rw [c_52]; decide)]; exact ⟨rfl, rfl⟩
theorem t_takeApart {l : Launch} {G : jG} {d : Nat} {σ : cS} {x : Nat} {p : Nat} (hw : wf σ) (hd : 5 ≤ d) (hx : kd x = 5) (hp : kd p = 2) : CJ jCls jown l G (Yx mX5_takeApart) d 0 0 0 [some (.ref x), some (.ref p), none] [] σ (det (some (vi (c_takeApart σ x p).1)) (c_takeApart σ x p).2) := by
  refine C_aload_n dX5_takeApart_0 rfl ?_
  refine D_callV (As := []) (d' := 1) (t_pempty hw (Nat.le_refl _) hp) dX5_takeApart_1 v_X5_46 (fun h hc => ⟨_, hc.2.1 _ hp⟩) rfl (Nat.le_of_ble_eq_true rfl) (by omega) (Nat.le_of_ble_eq_true rfl) ?_
  simp only [Option.toList, List.nil_append, List.cons_append]
  have hw1 : wf (c_pempty σ p) := w_pempty hw hp
  refine C_aload_n dX5_takeApart_4 rfl ?_
  refine C_iconst dX5_takeApart_5 ?_
  refine C_put (σ' := (cI (c_pempty σ p) x 1 0)) dX5_takeApart_6 f_X5_20 jfit_i (ownX hx) (fun h hc => hc.putX1 hx) ?_
  have hw2 : wf (cI (c_pempty σ p) x 1 0) := wf_I hw1 (by omega)
  refine C_aload_n dX5_takeApart_9 rfl ?_
  refine D_callV (As := []) (d' := 3) (t_takeMarks hw2 (Nat.le_refl _) hx (by first | omega | (have g0 := hw2.2.2.1 x 1; omega) | (simp [cI, upI, i_addCharacter, i_addComponent, i_addElement, i_addSegment]; omega) | (simp [cI, upI, i_addCharacter, i_addComponent, i_addElement, i_addSegment]; done))) dX5_takeApart_10 v_X5_49 (fun h hc => ⟨_, hc.2.2.2.2.1 _ hx⟩) rfl (Nat.le_of_ble_eq_true rfl) (by omega) (Nat.le_of_ble_eq_true rfl) ?_
  simp only [Option.toList, List.nil_append, List.cons_append]
  have hw3 : wf (c_takeMarks (cI (c_pempty σ p) x 1 0) x).2 := w_takeMarks hw2 hx (by first | omega | (have g0 := hw2.2.2.1 x 1; omega) | (simp [cI, upI, i_addCharacter, i_addComponent, i_addElement, i_addSegment]; omega) | (simp [cI, upI, i_addCharacter, i_addComponent, i_addElement, i_addSegment]; done))
  have q_10 := b_takeMarks (x := x) hw2 hx (by first | omega | (have g0 := hw2.2.2.1 x 1; omega) | (simp [cI, upI, i_addCharacter, i_addComponent, i_addElement, i_addSegment]; omega) | (simp [cI, upI, i_addCharacter, i_addComponent, i_addElement, i_addSegment]; done))
  try simp only [cI_at, i_addCharacter, i_addComponent, i_addElement, i_addSegment] at q_10
  refine C_if_neZ (tgt := 21) dX5_takeApart_13 (by decide) (fun c_13 => ?_) (fun c_13 => ?_)
  · refine C_iconst dX5_takeApart_21 ?_
    refine C_istore_n dX5_takeApart_22 (by decide) rfl ?_
    simp only [List.set_cons_zero, List.set_cons_succ, jfin0, jfin1, jfin2, jfin3]
    rw [c_takeApart, if_pos c_13]
    refine CJ.mono (ls' := [some (.ref x), some (.ref p), some (vi 0)]) (lsub_ok (by repeat (first | exact trivial | refine ⟨rfl, ?_⟩))) (fun _ _ q => q) ?_
    exact t_takeApartL hw3 hd hx hp (41) (by omega) (by first | omega | (have g0 := hw3.2.2.1 x 1; omega) | (simp [cI, upI, i_addCharacter, i_addComponent, i_addElement, i_addSegment]; omega) | (simp [cI, upI, i_addCharacter, i_addComponent, i_addElement, i_addSegment]; done)) (by omega)
  · refine C_aload_n dX5_takeApart_16 rfl ?_
    refine C_get dX5_takeApart_17 f_X5_20 (fun h hc => ⟨_, hc.2.2.2.2.1 _ hx, rfl⟩) ?_
    have g_17 := hw3.2.2.1 x 1
    refine C_iret dX5_takeApart_20 rfl ?_
    unfold det; rw [c_takeApart, if_neg (by rw [c_13]; decide)]; exact ⟨rfl, rfl⟩
theorem r_takeApartL {σ : cS} {x : Nat} {p : Nat} {s : Int} (hw : wf σ) (hx : kd x = 5) (hp : kd p = 2) (fu : Nat) (hs : 0 ≤ s ∧ s ≤ 40) (hv2 : σ.2.1 x 1 ≤ 2002 + 14527 * s) : -3000 ≤ (c_takeApartL x p fu s σ).1 ∧ (c_takeApartL x p fu s σ).1 < 100000000 := by
  induction fu generalizing σ s with
  | zero => unfold c_takeApartL; omega
  | succ fu ih =>
    unfold c_takeApartL
    split
    · split
      · have g_67 := hw.2.2.1 x 1
        have r_74 := hw.len (kX1 hx)
        have hw3 : wf (c_finish σ p) := w_finish hw hp
        omega
      · have g_67 := hw.2.2.1 x 1
        have r_74 := hw.len (kX1 hx)
        have g_81 := hw.2.2.1 x 1
        omega
    · split
      · split
        · have hw5 : wf (c_takeSegment σ x p).2 := w_takeSegment hw hx hp (by first | omega | (have g0 := hw.2.2.1 x 1; omega) | (simp [cI, upI, i_addCharacter, i_addComponent, i_addElement, i_addSegment]; omega) | (simp [cI, upI, i_addCharacter, i_addComponent, i_addElement, i_addSegment]; done))
          have q_49 := b_takeSegment (x := x) hw hx hp (by first | omega | (have g0 := hw.2.2.1 x 1; omega) | (simp [cI, upI, i_addCharacter, i_addComponent, i_addElement, i_addSegment]; omega) | (simp [cI, upI, i_addCharacter, i_addComponent, i_addElement, i_addSegment]; done))
          try simp only [cI_at, i_addCharacter, i_addComponent, i_addElement, i_addSegment] at q_49
          exact ih hw5 (by omega) (by first | omega | (have g0 := hw5.2.2.1 x 1; omega) | (simp [cI, upI, i_addCharacter, i_addComponent, i_addElement, i_addSegment]; omega) | (simp [cI, upI, i_addCharacter, i_addComponent, i_addElement, i_addSegment]; done))
        · have hw5 : wf (c_takeSegment σ x p).2 := w_takeSegment hw hx hp (by first | omega | (have g0 := hw.2.2.1 x 1; omega) | (simp [cI, upI, i_addCharacter, i_addComponent, i_addElement, i_addSegment]; omega) | (simp [cI, upI, i_addCharacter, i_addComponent, i_addElement, i_addSegment]; done))
          have q_49 := b_takeSegment (x := x) hw hx hp (by first | omega | (have g0 := hw.2.2.1 x 1; omega) | (simp [cI, upI, i_addCharacter, i_addComponent, i_addElement, i_addSegment]; omega) | (simp [cI, upI, i_addCharacter, i_addComponent, i_addElement, i_addSegment]; done))
          try simp only [cI_at, i_addCharacter, i_addComponent, i_addElement, i_addSegment] at q_49
          have g_56 := hw5.2.2.1 x 1
          omega
      · split
        · have g_34 := hw.2.2.1 x 1
          have r_41 := hw.len (kX1 hx)
          have g_67 := hw.2.2.1 x 1
          have r_74 := hw.len (kX1 hx)
          have hw9 : wf (c_finish σ p) := w_finish hw hp
          omega
        · split
          · have g_34 := hw.2.2.1 x 1
            have r_41 := hw.len (kX1 hx)
            have hw10 : wf (c_takeSegment σ x p).2 := w_takeSegment hw hx hp (by first | omega | (have g0 := hw.2.2.1 x 1; omega) | (simp [cI, upI, i_addCharacter, i_addComponent, i_addElement, i_addSegment]; omega) | (simp [cI, upI, i_addCharacter, i_addComponent, i_addElement, i_addSegment]; done))
            have q_49 := b_takeSegment (x := x) hw hx hp (by first | omega | (have g0 := hw.2.2.1 x 1; omega) | (simp [cI, upI, i_addCharacter, i_addComponent, i_addElement, i_addSegment]; omega) | (simp [cI, upI, i_addCharacter, i_addComponent, i_addElement, i_addSegment]; done))
            try simp only [cI_at, i_addCharacter, i_addComponent, i_addElement, i_addSegment] at q_49
            exact ih hw10 (by omega) (by first | omega | (have g0 := hw10.2.2.1 x 1; omega) | (simp [cI, upI, i_addCharacter, i_addComponent, i_addElement, i_addSegment]; omega) | (simp [cI, upI, i_addCharacter, i_addComponent, i_addElement, i_addSegment]; done))
          · have g_34 := hw.2.2.1 x 1
            have r_41 := hw.len (kX1 hx)
            have hw10 : wf (c_takeSegment σ x p).2 := w_takeSegment hw hx hp (by first | omega | (have g0 := hw.2.2.1 x 1; omega) | (simp [cI, upI, i_addCharacter, i_addComponent, i_addElement, i_addSegment]; omega) | (simp [cI, upI, i_addCharacter, i_addComponent, i_addElement, i_addSegment]; done))
            have q_49 := b_takeSegment (x := x) hw hx hp (by first | omega | (have g0 := hw.2.2.1 x 1; omega) | (simp [cI, upI, i_addCharacter, i_addComponent, i_addElement, i_addSegment]; omega) | (simp [cI, upI, i_addCharacter, i_addComponent, i_addElement, i_addSegment]; done))
            try simp only [cI_at, i_addCharacter, i_addComponent, i_addElement, i_addSegment] at q_49
            have g_56 := hw10.2.2.1 x 1
            omega
theorem r_takeApart {σ : cS} {x : Nat} {p : Nat} (hw : wf σ) (hx : kd x = 5) (hp : kd p = 2) : -3000 ≤ (c_takeApart σ x p).1 ∧ (c_takeApart σ x p).1 < 100000000 := by
  unfold c_takeApart
  split
  · have hw1 : wf (c_pempty σ p) := w_pempty hw hp
    have hw2 : wf (cI (c_pempty σ p) x 1 0) := wf_I hw1 (by omega)
    have hw3 : wf (c_takeMarks (cI (c_pempty σ p) x 1 0) x).2 := w_takeMarks hw2 hx (by first | omega | (have g0 := hw2.2.2.1 x 1; omega) | (simp [cI, upI, i_addCharacter, i_addComponent, i_addElement, i_addSegment]; omega) | (simp [cI, upI, i_addCharacter, i_addComponent, i_addElement, i_addSegment]; done))
    have q_10 := b_takeMarks (x := x) hw2 hx (by first | omega | (have g0 := hw2.2.2.1 x 1; omega) | (simp [cI, upI, i_addCharacter, i_addComponent, i_addElement, i_addSegment]; omega) | (simp [cI, upI, i_addCharacter, i_addComponent, i_addElement, i_addSegment]; done))
    try simp only [cI_at, i_addCharacter, i_addComponent, i_addElement, i_addSegment] at q_10
    exact r_takeApartL hw3 hx hp (41) (by omega) (by first | omega | (have g0 := hw3.2.2.1 x 1; omega) | (simp [cI, upI, i_addCharacter, i_addComponent, i_addElement, i_addSegment]; omega) | (simp [cI, upI, i_addCharacter, i_addComponent, i_addElement, i_addSegment]; done))
  · have hw1 : wf (c_pempty σ p) := w_pempty hw hp
    have hw2 : wf (cI (c_pempty σ p) x 1 0) := wf_I hw1 (by omega)
    have hw3 : wf (c_takeMarks (cI (c_pempty σ p) x 1 0) x).2 := w_takeMarks hw2 hx (by first | omega | (have g0 := hw2.2.2.1 x 1; omega) | (simp [cI, upI, i_addCharacter, i_addComponent, i_addElement, i_addSegment]; omega) | (simp [cI, upI, i_addCharacter, i_addComponent, i_addElement, i_addSegment]; done))
    have q_10 := b_takeMarks (x := x) hw2 hx (by first | omega | (have g0 := hw2.2.2.1 x 1; omega) | (simp [cI, upI, i_addCharacter, i_addComponent, i_addElement, i_addSegment]; omega) | (simp [cI, upI, i_addCharacter, i_addComponent, i_addElement, i_addSegment]; done))
    try simp only [cI_at, i_addCharacter, i_addComponent, i_addElement, i_addSegment] at q_10
    have g_17 := hw3.2.2.1 x 1
    omega
theorem w_takeApartL {σ : cS} {x : Nat} {p : Nat} {s : Int} (hw : wf σ) (hx : kd x = 5) (hp : kd p = 2) (fu : Nat) (hs : 0 ≤ s ∧ s ≤ 40) (hv2 : σ.2.1 x 1 ≤ 2002 + 14527 * s) : wf (c_takeApartL x p fu s σ).2 := by
  induction fu generalizing σ s with
  | zero => exact hw
  | succ fu ih =>
    unfold c_takeApartL
    split
    · split
      · have g_67 := hw.2.2.1 x 1
        have r_74 := hw.len (kX1 hx)
        have hw3 : wf (c_finish σ p) := w_finish hw hp
        exact hw3
      · have g_67 := hw.2.2.1 x 1
        have r_74 := hw.len (kX1 hx)
        have g_81 := hw.2.2.1 x 1
        exact hw
    · split
      · split
        · have hw5 : wf (c_takeSegment σ x p).2 := w_takeSegment hw hx hp (by first | omega | (have g0 := hw.2.2.1 x 1; omega) | (simp [cI, upI, i_addCharacter, i_addComponent, i_addElement, i_addSegment]; omega) | (simp [cI, upI, i_addCharacter, i_addComponent, i_addElement, i_addSegment]; done))
          have q_49 := b_takeSegment (x := x) hw hx hp (by first | omega | (have g0 := hw.2.2.1 x 1; omega) | (simp [cI, upI, i_addCharacter, i_addComponent, i_addElement, i_addSegment]; omega) | (simp [cI, upI, i_addCharacter, i_addComponent, i_addElement, i_addSegment]; done))
          try simp only [cI_at, i_addCharacter, i_addComponent, i_addElement, i_addSegment] at q_49
          exact ih hw5 (by omega) (by first | omega | (have g0 := hw5.2.2.1 x 1; omega) | (simp [cI, upI, i_addCharacter, i_addComponent, i_addElement, i_addSegment]; omega) | (simp [cI, upI, i_addCharacter, i_addComponent, i_addElement, i_addSegment]; done))
        · have hw5 : wf (c_takeSegment σ x p).2 := w_takeSegment hw hx hp (by first | omega | (have g0 := hw.2.2.1 x 1; omega) | (simp [cI, upI, i_addCharacter, i_addComponent, i_addElement, i_addSegment]; omega) | (simp [cI, upI, i_addCharacter, i_addComponent, i_addElement, i_addSegment]; done))
          have q_49 := b_takeSegment (x := x) hw hx hp (by first | omega | (have g0 := hw.2.2.1 x 1; omega) | (simp [cI, upI, i_addCharacter, i_addComponent, i_addElement, i_addSegment]; omega) | (simp [cI, upI, i_addCharacter, i_addComponent, i_addElement, i_addSegment]; done))
          try simp only [cI_at, i_addCharacter, i_addComponent, i_addElement, i_addSegment] at q_49
          have g_56 := hw5.2.2.1 x 1
          exact hw5
      · split
        · have g_34 := hw.2.2.1 x 1
          have r_41 := hw.len (kX1 hx)
          have g_67 := hw.2.2.1 x 1
          have r_74 := hw.len (kX1 hx)
          have hw9 : wf (c_finish σ p) := w_finish hw hp
          exact hw9
        · split
          · have g_34 := hw.2.2.1 x 1
            have r_41 := hw.len (kX1 hx)
            have hw10 : wf (c_takeSegment σ x p).2 := w_takeSegment hw hx hp (by first | omega | (have g0 := hw.2.2.1 x 1; omega) | (simp [cI, upI, i_addCharacter, i_addComponent, i_addElement, i_addSegment]; omega) | (simp [cI, upI, i_addCharacter, i_addComponent, i_addElement, i_addSegment]; done))
            have q_49 := b_takeSegment (x := x) hw hx hp (by first | omega | (have g0 := hw.2.2.1 x 1; omega) | (simp [cI, upI, i_addCharacter, i_addComponent, i_addElement, i_addSegment]; omega) | (simp [cI, upI, i_addCharacter, i_addComponent, i_addElement, i_addSegment]; done))
            try simp only [cI_at, i_addCharacter, i_addComponent, i_addElement, i_addSegment] at q_49
            exact ih hw10 (by omega) (by first | omega | (have g0 := hw10.2.2.1 x 1; omega) | (simp [cI, upI, i_addCharacter, i_addComponent, i_addElement, i_addSegment]; omega) | (simp [cI, upI, i_addCharacter, i_addComponent, i_addElement, i_addSegment]; done))
          · have g_34 := hw.2.2.1 x 1
            have r_41 := hw.len (kX1 hx)
            have hw10 : wf (c_takeSegment σ x p).2 := w_takeSegment hw hx hp (by first | omega | (have g0 := hw.2.2.1 x 1; omega) | (simp [cI, upI, i_addCharacter, i_addComponent, i_addElement, i_addSegment]; omega) | (simp [cI, upI, i_addCharacter, i_addComponent, i_addElement, i_addSegment]; done))
            have q_49 := b_takeSegment (x := x) hw hx hp (by first | omega | (have g0 := hw.2.2.1 x 1; omega) | (simp [cI, upI, i_addCharacter, i_addComponent, i_addElement, i_addSegment]; omega) | (simp [cI, upI, i_addCharacter, i_addComponent, i_addElement, i_addSegment]; done))
            try simp only [cI_at, i_addCharacter, i_addComponent, i_addElement, i_addSegment] at q_49
            have g_56 := hw10.2.2.1 x 1
            exact hw10
theorem w_takeApart {σ : cS} {x : Nat} {p : Nat} (hw : wf σ) (hx : kd x = 5) (hp : kd p = 2) : wf (c_takeApart σ x p).2 := by
  unfold c_takeApart
  split
  · have hw1 : wf (c_pempty σ p) := w_pempty hw hp
    have hw2 : wf (cI (c_pempty σ p) x 1 0) := wf_I hw1 (by omega)
    have hw3 : wf (c_takeMarks (cI (c_pempty σ p) x 1 0) x).2 := w_takeMarks hw2 hx (by first | omega | (have g0 := hw2.2.2.1 x 1; omega) | (simp [cI, upI, i_addCharacter, i_addComponent, i_addElement, i_addSegment]; omega) | (simp [cI, upI, i_addCharacter, i_addComponent, i_addElement, i_addSegment]; done))
    have q_10 := b_takeMarks (x := x) hw2 hx (by first | omega | (have g0 := hw2.2.2.1 x 1; omega) | (simp [cI, upI, i_addCharacter, i_addComponent, i_addElement, i_addSegment]; omega) | (simp [cI, upI, i_addCharacter, i_addComponent, i_addElement, i_addSegment]; done))
    try simp only [cI_at, i_addCharacter, i_addComponent, i_addElement, i_addSegment] at q_10
    exact w_takeApartL hw3 hx hp (41) (by omega) (by first | omega | (have g0 := hw3.2.2.1 x 1; omega) | (simp [cI, upI, i_addCharacter, i_addComponent, i_addElement, i_addSegment]; omega) | (simp [cI, upI, i_addCharacter, i_addComponent, i_addElement, i_addSegment]; done))
  · have hw1 : wf (c_pempty σ p) := w_pempty hw hp
    have hw2 : wf (cI (c_pempty σ p) x 1 0) := wf_I hw1 (by omega)
    have hw3 : wf (c_takeMarks (cI (c_pempty σ p) x 1 0) x).2 := w_takeMarks hw2 hx (by first | omega | (have g0 := hw2.2.2.1 x 1; omega) | (simp [cI, upI, i_addCharacter, i_addComponent, i_addElement, i_addSegment]; omega) | (simp [cI, upI, i_addCharacter, i_addComponent, i_addElement, i_addSegment]; done))
    have q_10 := b_takeMarks (x := x) hw2 hx (by first | omega | (have g0 := hw2.2.2.1 x 1; omega) | (simp [cI, upI, i_addCharacter, i_addComponent, i_addElement, i_addSegment]; omega) | (simp [cI, upI, i_addCharacter, i_addComponent, i_addElement, i_addSegment]; done))
    try simp only [cI_at, i_addCharacter, i_addComponent, i_addElement, i_addSegment] at q_10
    have g_17 := hw3.2.2.1 x 1
    exact hw3
