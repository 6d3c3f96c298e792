def byt (x : Int64) (s : Int) : Int := ((x.toUInt64.toNat / 2 ^ s.toNat % 256 : Nat) : Int)
theorem byt_rg (x : Int64) (s : Int) : 0 ≤ byt x s ∧ byt x s < 256 := by unfold byt; omega
theorem i32_and255 (y : Int32) : y &&& Int32.ofInt 255 = Int32.ofInt ((y.toBitVec.toNat % 256 : Nat) : Int) := by
  rw [← Int32.toBitVec_inj, Int32.toBitVec_and, bv_iz, bv_iz]
  apply BitVec.eq_of_toNat_eq
  rw [BitVec.toNat_and, BitVec.toNat_ofInt, BitVec.toNat_ofInt]
  have e : ((255 : Int) % ((2 ^ 32 : Nat) : Int)).toNat = 2 ^ 8 - 1 := by decide
  rw [e, Nat.and_two_pow_sub_one_eq_mod]
  have e2 : ((2 ^ 32 : Nat) : Int) = 4294967296 := by decide
  rw [e2]; omega
theorem i64_low (v : Int64) : v.toInt32.toBitVec.toNat = v.toBitVec.toNat % 4294967296 := by
  rw [Int64.toBitVec_toInt32, BitVec.signExtend_eq_setWidth_of_le _ (by decide), BitVec.toNat_setWidth]
theorem byt_ushr (x : Int64) (s : Int) (h : 0 ≤ s ∧ s < 64) : (x.toUInt64 >>> ((Int32.ofInt s).toInt64.toUInt64 &&& Int64.toUInt64 63)).toInt64.toInt32 &&& Int32.ofInt 255 = Int32.ofInt (byt x s) := by
  obtain ⟨k, rfl⟩ := Int.eq_ofNat_of_zero_le h.1
  have hk : k < 64 := by omega
  have e0 : ((Int32.ofInt k).toInt64.toUInt64 &&& Int64.toUInt64 63) = UInt64.ofNat k := by
    have : ∀ k : Fin 64, ((Int32.ofInt (k : Nat)).toInt64.toUInt64 &&& Int64.toUInt64 63) = UInt64.ofNat k := by decide
    exact this ⟨k, hk⟩
  rw [e0, i32_and255, i64_low]
  have e1 : (x.toUInt64 >>> UInt64.ofNat k).toInt64.toBitVec.toNat = x.toUInt64.toNat / 2 ^ k := by
    show (x.toUInt64 >>> UInt64.ofNat k).toNat = _
    rw [UInt64.toNat_shiftRight, UInt64.toNat_ofNat', Nat.shiftRight_eq_div_pow]
    congr 2
    omega
  rw [e1]
  unfold byt
  congr 2
  rw [Int.toNat_natCast]
  generalize x.toUInt64.toNat / 2 ^ k = q
  omega
theorem t_byteOf {l : Launch} {G : jG} {d : Nat} {σ : cS} {x : Int64} {s : Int} (hs : 0 ≤ s ∧ s < 64) : CJ jCls jown l G (Yx mX6_byteOf) d 0 0 0 [some (.long x), none, some (vi s)] [] σ (det (some (vi (byt x s))) σ) := by
  refine C_lload_n dX6_byteOf_0 rfl ?_
  refine C_iload_n dX6_byteOf_1 rfl ?_
  refine C_lushr dX6_byteOf_2 rfl ?_
  refine C_l2i dX6_byteOf_3 ?_
  refine C_sipush dX6_byteOf_4 (by decide) ?_
  refine C_iand dX6_byteOf_7 ?_
  rw [byt_ushr x s hs]
  exact C_iret dX6_byteOf_8 rfl ⟨rfl, rfl⟩
def c_typeL2 (x : Int64) : Nat → Int → cS → Bool × cS
  | 0, _, σ => (false, σ)
  | fu + 1, a, σ => (if a < 0 then (true, σ) else (if (byt x a) = 0 then (c_typeL2 x fu (a + (-8)) σ) else (c_typeL2 x fu (a + (-8)) (c_xadd σ 2 (byt x a)))))
def c_typeL1 (x : Int64) : Nat → Int → Int → cS → Bool × cS
  | 0, _, _, σ => (false, σ)
  | fu + 1, n, a, σ => (if a < 0 then (if ((c_xsize σ 2) + n) ≤ 400 then (c_typeL2 x (65) 56 σ) else (false, σ)) else (if (byt x a) = 0 then (c_typeL1 x fu n (a + (-8)) σ) else (if (byt x a) < 32 then (false, σ) else (if (byt x a) ≤ 126 then (c_typeL1 x fu (n + 1) (a + (-8)) σ) else (false, σ)))))
def c_type (σ : cS) (x : Int64) : Bool × cS := (c_typeL1 x (65) 0 56 σ)
theorem t_typeL2 {l : Launch} {G : jG} {d : Nat} {σ : cS} {x : Int64} {a : Int} (hw : wf σ) (hd : 2 ≤ d)  (fu : Nat) (ha : -8 ≤ a ∧ a ≤ 56 ∧ a % 8 = 0) (hm : a + 8 < (fu : Int)) : CJ jCls jown l G (Yx mX6_type) d 0 0 70 [some (.ref 1), some (.long x), none, none, some (vi a), none] [] σ (det (some (vi (bz (c_typeL2 x fu a σ).1))) (c_typeL2 x fu a σ).2) := by
  induction fu generalizing σ a with
  | zero => exact absurd hm (by omega)
  | succ fu ih =>
    refine C_iload dX6_type_70 rfl ?_
    refine C_if_lt (tgt := 103) dX6_type_72 (by decide) (by omega) (fun c_72 => ?_) (fun c_72 => ?_)
    · refine C_iconst dX6_type_103 ?_
      refine C_zret dX6_type_104 rfl (by first | exact Or.inl rfl | exact Or.inr rfl | exact bz_01 _) ?_
      unfold det; rw [c_typeL2, if_pos (by omega)]; exact ⟨rfl, rfl⟩
    · refine C_lload_n dX6_type_75 rfl ?_
      refine C_iload dX6_type_76 rfl ?_
      refine D_callS (As := [.long _, vi _]) (d' := 0) (t_byteOf (by omega)) dX6_type_78 s_X6_53 rfl (Nat.le_of_ble_eq_true rfl) (by omega) (Nat.le_of_ble_eq_true rfl) ?_
      simp only [Option.toList, List.nil_append, List.cons_append]
      have r_78 := byt_rg x a
      refine C_istore dX6_type_81 (by decide) rfl ?_
      simp only [List.set_cons_zero, List.set_cons_succ, jfin0, jfin1, jfin2, jfin3]
      refine C_iload dX6_type_83 rfl ?_
      refine C_if_eq (tgt := 97) dX6_type_85 (by decide) (by omega) (fun c_85 => ?_) (fun c_85 => ?_)
      · refine C_iinc dX6_type_97 rfl (by decide) rfl ?_
        simp only [List.set_cons_zero, List.set_cons_succ]
        refine C_goto (tgt := 70) dX6_type_100 (by decide) ?_
        rw [c_typeL2, if_neg (by omega), if_pos (by omega)]
        refine CJ.mono (ls' := [some (.ref 1), some (.long x), none, none, some (vi (a + (-8))), none]) (lsub_ok (by repeat (first | exact trivial | refine ⟨rfl, ?_⟩))) (fun _ _ q => q) ?_
        exact ih hw (by omega) (by omega)
      · refine C_aload_n dX6_type_88 rfl ?_
        refine C_get dX6_type_89 f_X6_12 (fun h hc => ⟨_, hc.2.2.2.2.2.2.2, rfl⟩) ?_
        refine C_iload dX6_type_92 rfl ?_
        refine D_callV (As := [vi _]) (d' := 1) (t_xadd hw (Nat.le_refl _) kd2 (by omega)) dX6_type_94 v_X6_61 (fun h hc => ⟨_, hc.2.2.2.2.1 _ kd2⟩) rfl (Nat.le_of_ble_eq_true rfl) (by omega) (Nat.le_of_ble_eq_true rfl) ?_
        simp only [Option.toList, List.nil_append, List.cons_append]
        have hw3 : wf (c_xadd σ 2 (byt x a)) := w_xadd hw kd2 (by omega)
        refine C_iinc dX6_type_97 rfl (by decide) rfl ?_
        simp only [List.set_cons_zero, List.set_cons_succ]
        refine C_goto (tgt := 70) dX6_type_100 (by decide) ?_
        rw [c_typeL2, if_neg (by omega), if_neg (by omega)]
        refine CJ.mono (ls' := [some (.ref 1), some (.long x), none, none, some (vi (a + (-8))), none]) (lsub_ok (by repeat (first | exact trivial | refine ⟨rfl, ?_⟩))) (fun _ _ q => q) ?_
        exact ih hw3 (by omega) (by omega)
theorem t_typeL1 {l : Launch} {G : jG} {d : Nat} {σ : cS} {x : Int64} {n a : Int} (hw : wf σ) (hd : 2 ≤ d)  (fu : Nat) (hn : 0 ≤ n ∧ n * 8 ≤ 56 - a) (ha : -8 ≤ a ∧ a ≤ 56 ∧ a % 8 = 0) (hm : a + 8 < (fu : Int)) : CJ jCls jown l G (Yx mX6_type) d 0 0 6 [some (.ref 1), some (.long x), none, some (vi n), some (vi a), none] [] σ (det (some (vi (bz (c_typeL1 x fu n a σ).1))) (c_typeL1 x fu n a σ).2) := by
  induction fu generalizing σ n a with
  | zero => exact absurd hm (by omega)
  | succ fu ih =>
    refine C_iload dX6_type_6 rfl ?_
    refine C_if_lt (tgt := 49) dX6_type_8 (by decide) (by omega) (fun c_8 => ?_) (fun c_8 => ?_)
    · refine C_aload_n dX6_type_49 rfl ?_
      refine C_get dX6_type_50 f_X6_12 (fun h hc => ⟨_, hc.2.2.2.2.2.2.2, rfl⟩) ?_
      refine D_callV (As := []) (d' := 1) (t_xsize hw (Nat.le_refl _) kd2) dX6_type_53 v_X6_57 (fun h hc => ⟨_, hc.2.2.2.2.1 _ kd2⟩) rfl (Nat.le_of_ble_eq_true rfl) (by omega) (Nat.le_of_ble_eq_true rfl) ?_
      simp only [Option.toList, List.nil_append, List.cons_append]
      have r_53 := r_xsize (x := 2) hw kd2
      refine C_iload_n dX6_type_56 rfl ?_
      refine C_iadd dX6_type_57 ?_
      refine C_sipush dX6_type_58 (by decide) ?_
      refine C_icmp_le (tgt := 66) dX6_type_61 (by decide) (by omega) (by omega) (fun c_61 => ?_) (fun c_61 => ?_)
      · refine C_bipush dX6_type_66 (by decide) ?_
        refine C_istore dX6_type_68 (by decide) rfl ?_
        simp only [List.set_cons_zero, List.set_cons_succ, jfin0, jfin1, jfin2, jfin3]
        rw [c_typeL1, if_pos (by omega), if_pos (by omega)]
        refine CJ.mono (ls' := [some (.ref 1), some (.long x), none, none, some (vi 56), none]) (lsub_ok (by repeat (first | exact trivial | refine ⟨rfl, ?_⟩))) (fun _ _ q => q) ?_
        exact t_typeL2 hw hd  (65) (by omega) (by omega)
      · refine C_iconst dX6_type_64 ?_
        refine C_zret dX6_type_65 rfl (by first | exact Or.inl rfl | exact Or.inr rfl | exact bz_01 _) ?_
        unfold det; rw [c_typeL1, if_pos (by omega), if_neg (by omega)]; exact ⟨rfl, rfl⟩
    · refine C_lload_n dX6_type_11 rfl ?_
      refine C_iload dX6_type_12 rfl ?_
      refine D_callS (As := [.long _, vi _]) (d' := 0) (t_byteOf (by omega)) dX6_type_14 s_X6_53 rfl (Nat.le_of_ble_eq_true rfl) (by omega) (Nat.le_of_ble_eq_true rfl) ?_
      simp only [Option.toList, List.nil_append, List.cons_append]
      have r_14 := byt_rg x a
      refine C_istore dX6_type_17 (by decide) rfl ?_
      simp only [List.set_cons_zero, List.set_cons_succ, jfin0, jfin1, jfin2, jfin3]
      refine C_iload dX6_type_19 rfl ?_
      refine C_if_eq (tgt := 43) dX6_type_21 (by decide) (by omega) (fun c_21 => ?_) (fun c_21 => ?_)
      · refine C_iinc dX6_type_43 rfl (by decide) rfl ?_
        simp only [List.set_cons_zero, List.set_cons_succ]
        refine C_goto (tgt := 6) dX6_type_46 (by decide) ?_
        rw [c_typeL1, if_neg (by omega), if_pos (by omega)]
        refine CJ.mono (ls' := [some (.ref 1), some (.long x), none, some (vi n), some (vi (a + (-8))), none]) (lsub_ok (by repeat (first | exact trivial | refine ⟨rfl, ?_⟩))) (fun _ _ q => q) ?_
        exact ih hw (by omega) (by omega) (by omega)
      · refine C_iload dX6_type_24 rfl ?_
        refine C_bipush dX6_type_26 (by decide) ?_
        refine C_icmp_lt (tgt := 38) dX6_type_28 (by decide) (by omega) (by omega) (fun c_28 => ?_) (fun c_28 => ?_)
        · refine C_iconst dX6_type_38 ?_
          refine C_zret dX6_type_39 rfl (by first | exact Or.inl rfl | exact Or.inr rfl | exact bz_01 _) ?_
          unfold det; rw [c_typeL1, if_neg (by omega), if_neg (by omega), if_pos (by omega)]; exact ⟨rfl, rfl⟩
        · refine C_iload dX6_type_31 rfl ?_
          refine C_bipush dX6_type_33 (by decide) ?_
          refine C_icmp_le (tgt := 40) dX6_type_35 (by decide) (by omega) (by omega) (fun c_35 => ?_) (fun c_35 => ?_)
          · refine C_iinc dX6_type_40 rfl (by decide) rfl ?_
            simp only [List.set_cons_zero, List.set_cons_succ]
            refine C_iinc dX6_type_43 rfl (by decide) rfl ?_
            simp only [List.set_cons_zero, List.set_cons_succ]
            refine C_goto (tgt := 6) dX6_type_46 (by decide) ?_
            rw [c_typeL1, if_neg (by omega), if_neg (by omega), if_neg (by omega), if_pos (by omega)]
            refine CJ.mono (ls' := [some (.ref 1), some (.long x), none, some (vi (n + 1)), some (vi (a + (-8))), none]) (lsub_ok (by repeat (first | exact trivial | refine ⟨rfl, ?_⟩))) (fun _ _ q => q) ?_
            exact ih hw (by omega) (by omega) (by omega)
          · refine C_iconst dX6_type_38 ?_
            refine C_zret dX6_type_39 rfl (by first | exact Or.inl rfl | exact Or.inr rfl | exact bz_01 _) ?_
            unfold det; rw [c_typeL1, if_neg (by omega), if_neg (by omega), if_neg (by omega), if_neg (by omega)]; exact ⟨rfl, rfl⟩
theorem t_type {l : Launch} {G : jG} {d : Nat} {σ : cS} {x : Int64} (hw : wf σ) (hd : 2 ≤ d)  : CJ jCls jown l G (Yx mX6_type) d 0 0 0 [some (.ref 1), some (.long x), none, none, none, none] [] σ (det (some (vi (bz (c_type σ x).1))) (c_type σ x).2) := by
  refine C_iconst dX6_type_0 ?_
  refine C_istore_n dX6_type_1 (by decide) rfl ?_
  simp only [List.set_cons_zero, List.set_cons_succ, jfin0, jfin1, jfin2, jfin3]
  refine C_bipush dX6_type_2 (by decide) ?_
  refine C_istore dX6_type_4 (by decide) rfl ?_
  simp only [List.set_cons_zero, List.set_cons_succ, jfin0, jfin1, jfin2, jfin3]
  rw [c_type]
  refine CJ.mono (ls' := [some (.ref 1), some (.long x), none, some (vi 0), some (vi 56), none]) (lsub_ok (by repeat (first | exact trivial | refine ⟨rfl, ?_⟩))) (fun _ _ q => q) ?_
  exact t_typeL1 hw hd  (65) (by omega) (by omega) (by omega)
theorem w_typeL2 {σ : cS} {x : Int64} {a : Int} (hw : wf σ)  (fu : Nat) (ha : -8 ≤ a ∧ a ≤ 56 ∧ a % 8 = 0) : wf (c_typeL2 x fu a σ).2 := by
  induction fu generalizing σ a with
  | zero => exact hw
  | succ fu ih =>
    unfold c_typeL2
    split
    · exact hw
    · split
      · have r_78 := byt_rg x a
        exact ih hw (by omega)
      · have r_78 := byt_rg x a
        have hw3 : wf (c_xadd σ 2 (byt x a)) := w_xadd hw kd2 (by omega)
        exact ih hw3 (by omega)
theorem w_typeL1 {σ : cS} {x : Int64} {n a : Int} (hw : wf σ)  (fu : Nat) (hn : 0 ≤ n ∧ n * 8 ≤ 56 - a) (ha : -8 ≤ a ∧ a ≤ 56 ∧ a % 8 = 0) : wf (c_typeL1 x fu n a σ).2 := by
  induction fu generalizing σ n a with
  | zero => exact hw
  | succ fu ih =>
    unfold c_typeL1
    split
    · split
      · have r_53 := r_xsize (x := 2) hw kd2
        exact w_typeL2 hw  (65) (by omega)
      · have r_53 := r_xsize (x := 2) hw kd2
        exact hw
    · split
      · have r_14 := byt_rg x a
        exact ih hw (by omega) (by omega)
      · split
        · have r_14 := byt_rg x a
          exact hw
        · split
          · have r_14 := byt_rg x a
            exact ih hw (by omega) (by omega)
          · have r_14 := byt_rg x a
            exact hw
theorem w_type {σ : cS} {x : Int64} (hw : wf σ)  : wf (c_type σ x).2 := by
  unfold c_type
  exact w_typeL1 hw  (65) (by omega) (by omega)
