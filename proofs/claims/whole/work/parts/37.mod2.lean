theorem byt_sshr (x : Int64) (k : Int) (h : 0 ≤ k ∧ k ≤ 7) : (x >>> ((Int32.ofInt (8 * k)).toInt64 &&& 63)).toInt32 &&& Int32.ofInt 255 = Int32.ofInt (byt x (8 * k)) := by
  rw [i32_and255, i64_low]
  have e2 : ∀ b : BitVec 64, ((b.toNat % 4294967296 % 256 : Nat) : Int) = b.toInt % 256 := fun b => by
    rw [BitVec.toInt_eq_toNat_cond]
    have := b.isLt
    split <;> omega
  rw [e2]
  have hu : byt x (8 * k) = (((x.toBitVec.toNat / 2 ^ (8 * k).toNat % 256 : Nat)) : Int) := rfl
  rw [hu]
  have key : ∀ s : Nat, s < 64 → (x >>> ((Int32.ofInt (s : Nat)).toInt64 &&& 63)).toBitVec.toInt = x.toBitVec.toInt / (2 ^ s : Nat) := fun s hs => by
    have e0 : ((Int32.ofInt (s : Nat)).toInt64 &&& 63) = Int64.ofNat s := by
      have : ∀ k : Fin 64, ((Int32.ofInt (k : Nat)).toInt64 &&& 63) = Int64.ofNat k := by decide
      exact this ⟨s, hs⟩
    rw [e0, Int64.toBitVec_shiftRight]
    have e1 : (Int64.ofNat s).toBitVec.smod 64 = BitVec.ofNat 64 s := by
      have : ∀ k : Fin 64, (Int64.ofNat k).toBitVec.smod 64 = BitVec.ofNat 64 k := by decide
      exact this ⟨s, hs⟩
    rw [e1]
    show (x.toBitVec.sshiftRight (BitVec.ofNat 64 s).toNat).toInt = _
    rw [BitVec.toInt_sshiftRight]
    have e5 : (BitVec.ofNat 64 s).toNat = s := by rw [BitVec.toNat_ofNat]; omega
    rw [e5, Int.shiftRight_eq_div_pow]
  have hx := BitVec.toInt_eq_toNat_cond (x := x.toBitVec)
  have hlt := x.toBitVec.isLt
  have fin : ∀ s : Nat, s < 64 → (x.toBitVec.toInt / (2 ^ s : Nat)) % 256 = ((x.toBitVec.toNat / 2 ^ s % 256 : Nat) : Int) → Int32.ofInt ((x >>> ((Int32.ofInt (s : Nat)).toInt64 &&& 63)).toBitVec.toInt % 256) = Int32.ofInt ((x.toBitVec.toNat / 2 ^ s % 256 : Nat) : Int) := fun s hs e => by rw [key s hs, e]
  generalize x.toBitVec.toInt = a at *
  generalize x.toBitVec.toNat = u at *
  have hk : k = 0 ∨ k = 1 ∨ k = 2 ∨ k = 3 ∨ k = 4 ∨ k = 5 ∨ k = 6 ∨ k = 7 := by omega
  rcases hk with e | e | e | e | e | e | e | e <;> subst e
  · exact fin 0 (by decide) (by show a / 1 % 256 = ((u / 1 % 256 : Nat) : Int); split at hx <;> omega)
  · exact fin 8 (by decide) (by show a / 256 % 256 = ((u / 256 % 256 : Nat) : Int); split at hx <;> omega)
  · exact fin 16 (by decide) (by show a / 65536 % 256 = ((u / 65536 % 256 : Nat) : Int); split at hx <;> omega)
  · exact fin 24 (by decide) (by show a / 16777216 % 256 = ((u / 16777216 % 256 : Nat) : Int); split at hx <;> omega)
  · exact fin 32 (by decide) (by show a / 4294967296 % 256 = ((u / 4294967296 % 256 : Nat) : Int); split at hx <;> omega)
  · exact fin 40 (by decide) (by show a / 1099511627776 % 256 = ((u / 1099511627776 % 256 : Nat) : Int); split at hx <;> omega)
  · exact fin 48 (by decide) (by show a / 281474976710656 % 256 = ((u / 281474976710656 % 256 : Nat) : Int); split at hx <;> omega)
  · exact fin 56 (by decide) (by show a / 72057594037927936 % 256 = ((u / 72057594037927936 % 256 : Nat) : Int); split at hx <;> omega)
def c_mtypeL (x : Int64) : Nat → Int → Int → mS → Bool × mS
  | 0, _, _, σ => (false, σ)
  | fu + 1, n, k, σ => (if k < 0 then (true, (mfl σ 1 n)) else (if (byt x (8 * k)) = 0 then (c_mtypeL x fu n (k + (-1)) σ) else (if (byt x (8 * k)) < 32 then (false, σ) else (if 126 < (byt x (8 * k)) then (false, σ) else (if n = 400 then (false, σ) else (c_mtypeL x fu (n + 1) (k + (-1)) (mar σ 2 n (byt x (8 * k)))))))))
def c_mtype (σ : mS) (x : Int64) : Bool × mS := (c_mtypeL x (9) (σ.1 1) 7 (mfl σ 0 0))
theorem t_mtypeL {l : Launch} {G : jG} {d : Nat} {σ : mS} {x : Int64} {n k : Int} (hw : wfm σ) (hd : 0 ≤ d)  (fu : Nat) (hn : 0 ≤ n ∧ n ≤ 400) (hk : -1 ≤ k ∧ k ≤ 7) (hm : k + 1 < (fu : Int)) : CJ jMod mown l G (Yx mX7_type) d 0 0 14 [some (.ref 116), some (.long x), none, some (vi n), some (vi k), none] [] σ (det (some (vi (bz (c_mtypeL x fu n k σ).1))) (c_mtypeL x fu n k σ).2) := by
  induction fu generalizing σ n k with
  | zero => exact absurd hm (by omega)
  | succ fu ih =>
    refine C_iload dX7_type_14 rfl ?_
    refine C_if_lt (tgt := 83) dX7_type_16 (by decide) (by omega) (fun c_16 => ?_) (fun c_16 => ?_)
    · refine C_aload_n dX7_type_83 rfl ?_
      refine C_iload_n dX7_type_84 rfl ?_
      refine C_put (σ' := (mfl σ 1 n)) dX7_type_85 f_X7_105 jfit_i mown_0 (fun h hc => hc.pf1) ?_
      have hw2 : wfm (mfl σ 1 n) := wfm_f (k := 1) hw (show (0 : Int) ≤ n ∧ n ≤ 400 by omega)
      refine C_iconst dX7_type_88 ?_
      refine C_zret dX7_type_89 rfl (by first | exact Or.inl rfl | exact Or.inr rfl | exact bz_01 _) ?_
      unfold det; rw [c_mtypeL, if_pos (by omega)]; exact ⟨rfl, rfl⟩
    · refine C_lload_n dX7_type_19 rfl ?_
      refine C_bipush dX7_type_20 (by decide) ?_
      refine C_iload dX7_type_22 rfl ?_
      refine C_imul dX7_type_24 ?_
      refine C_lshr dX7_type_25 rfl ?_
      refine C_l2i dX7_type_26 ?_
      refine C_sipush dX7_type_27 (by decide) ?_
      refine C_iand dX7_type_30 ?_
      rw [byt_sshr x k (by omega)]
      have r_19 := byt_rg x (8 * k)
      refine C_istore dX7_type_31 (by decide) rfl ?_
      simp only [List.set_cons_zero, List.set_cons_succ, jfin0, jfin1, jfin2, jfin3]
      refine C_iload dX7_type_33 rfl ?_
      refine C_if_eq (tgt := 61) dX7_type_35 (by decide) (by omega) (fun c_35 => ?_) (fun c_35 => ?_)
      · refine C_iload dX7_type_61 rfl ?_
        refine C_if_eq (tgt := 77) dX7_type_63 (by decide) (by omega) (fun c_63 => ?_) (fun c_63 => absurd c_63 (by omega))
        refine C_iinc dX7_type_77 rfl (by decide) rfl ?_
        simp only [List.set_cons_zero, List.set_cons_succ]
        refine C_goto (tgt := 14) dX7_type_80 (by decide) ?_
        rw [c_mtypeL, if_neg (by omega), if_pos (by omega)]
        refine CJ.mono (ls' := [some (.ref 116), some (.long x), none, some (vi n), some (vi (k + (-1))), none]) (lsub_ok (by repeat (first | exact trivial | refine ⟨rfl, ?_⟩))) (fun _ _ q => q) ?_
        exact ih hw (by omega) (by omega) (by omega)
      · refine C_iload dX7_type_38 rfl ?_
        refine C_bipush dX7_type_40 (by decide) ?_
        refine C_icmp_lt (tgt := 59) dX7_type_42 (by decide) (by omega) (by omega) (fun c_42 => ?_) (fun c_42 => ?_)
        · refine C_iconst dX7_type_59 ?_
          refine C_zret dX7_type_60 rfl (by first | exact Or.inl rfl | exact Or.inr rfl | exact bz_01 _) ?_
          unfold det; rw [c_mtypeL, if_neg (by omega), if_neg (by omega), if_pos (by omega)]; exact ⟨rfl, rfl⟩
        · refine C_iload dX7_type_45 rfl ?_
          refine C_bipush dX7_type_47 (by decide) ?_
          refine C_icmp_gt (tgt := 59) dX7_type_49 (by decide) (by omega) (by omega) (fun c_49 => ?_) (fun c_49 => ?_)
          · refine C_iconst dX7_type_59 ?_
            refine C_zret dX7_type_60 rfl (by first | exact Or.inl rfl | exact Or.inr rfl | exact bz_01 _) ?_
            unfold det; rw [c_mtypeL, if_neg (by omega), if_neg (by omega), if_neg (by omega), if_pos (by omega)]; exact ⟨rfl, rfl⟩
          · refine C_iload_n dX7_type_52 rfl ?_
            refine C_sipush dX7_type_53 (by decide) ?_
            refine C_icmp_ne (tgt := 61) dX7_type_56 (by decide) (by omega) (by omega) (fun c_56 => ?_) (fun c_56 => ?_)
            · refine C_iload dX7_type_61 rfl ?_
              refine C_if_eq (tgt := 77) dX7_type_63 (by decide) (by omega) (fun c_63 => absurd c_63 (by omega)) (fun c_63 => ?_)
              refine C_aload_n dX7_type_66 rfl ?_
              refine C_get (v := .ref 117) dX7_type_67 f_X7_7 (fun h hc => ⟨_, hc.1, rfl⟩) ?_
              refine C_iload_n dX7_type_70 rfl ?_
              refine C_iload dX7_type_71 rfl ?_
              refine C_iast (σ' := (mar σ 2 n (byt x (8 * k)))) dX7_type_73 (by omega) (by omega) mo2 (fun h hc => hc.st2 hw (by omega) (by omega)) ?_
              have hw9 : wfm (mar σ 2 n (byt x (8 * k))) := wfm_a (k := 2) hw (show (0 : Int) ≤ (byt x (8 * k)) ∧ (byt x (8 * k)) ≤ 126 by omega)
              refine C_iinc dX7_type_74 rfl (by decide) rfl ?_
              simp only [List.set_cons_zero, List.set_cons_succ]
              refine C_iinc dX7_type_77 rfl (by decide) rfl ?_
              simp only [List.set_cons_zero, List.set_cons_succ]
              refine C_goto (tgt := 14) dX7_type_80 (by decide) ?_
              rw [c_mtypeL, if_neg (by omega), if_neg (by omega), if_neg (by omega), if_neg (by omega), if_neg (by omega)]
              refine CJ.mono (ls' := [some (.ref 116), some (.long x), none, some (vi (n + 1)), some (vi (k + (-1))), none]) (lsub_ok (by repeat (first | exact trivial | refine ⟨rfl, ?_⟩))) (fun _ _ q => q) ?_
              exact ih hw9 (by omega) (by omega) (by omega)
            · refine C_iconst dX7_type_59 ?_
              refine C_zret dX7_type_60 rfl (by first | exact Or.inl rfl | exact Or.inr rfl | exact bz_01 _) ?_
              unfold det; rw [c_mtypeL, if_neg (by omega), if_neg (by omega), if_neg (by omega), if_neg (by omega), if_pos (by omega)]; exact ⟨rfl, rfl⟩
theorem t_mtype {l : Launch} {G : jG} {d : Nat} {σ : mS} {x : Int64} (hw : wfm σ) (hd : 0 ≤ d)  : CJ jMod mown l G (Yx mX7_type) d 0 0 0 [some (.ref 116), some (.long x), none, none, none, none] [] σ (det (some (vi (bz (c_mtype σ x).1))) (c_mtype σ x).2) := by
  refine C_aload_n dX7_type_0 rfl ?_
  refine C_iconst dX7_type_1 ?_
  refine C_put (σ' := (mfl σ 0 0)) dX7_type_2 f_X7_102 jfit_i mown_0 (fun h hc => hc.pf0) ?_
  have hw1 : wfm (mfl σ 0 0) := wfm_f (k := 0) hw (show (0 : Int) ≤ 0 ∧ 0 ≤ 2 by omega)
  refine C_aload_n dX7_type_5 rfl ?_
  refine C_get (v := vi (σ.1 1)) dX7_type_6 f_X7_105 (fun h hc => ⟨_, hc.1, congrArg (fun z => some (vi z)) (show ((mfl σ 0 0).1 1) = (σ.1 1) by simp [mfl, mar, upF])⟩) ?_
  have g_6 := hw.f1
  refine C_istore_n dX7_type_9 (by decide) rfl ?_
  simp only [List.set_cons_zero, List.set_cons_succ, jfin0, jfin1, jfin2, jfin3]
  refine C_bipush dX7_type_10 (by decide) ?_
  refine C_istore dX7_type_12 (by decide) rfl ?_
  simp only [List.set_cons_zero, List.set_cons_succ, jfin0, jfin1, jfin2, jfin3]
  rw [c_mtype]
  refine CJ.mono (ls' := [some (.ref 116), some (.long x), none, some (vi (σ.1 1)), some (vi 7), none]) (lsub_ok (by repeat (first | exact trivial | refine ⟨rfl, ?_⟩))) (fun _ _ q => q) ?_
  exact t_mtypeL hw1 hd  (9) (by omega) (by omega) (by omega)
theorem w_mtypeL {σ : mS} {x : Int64} {n k : Int} (hw : wfm σ)  (fu : Nat) (hn : 0 ≤ n ∧ n ≤ 400) (hk : -1 ≤ k ∧ k ≤ 7) : wfm (c_mtypeL x fu n k σ).2 := by
  induction fu generalizing σ n k with
  | zero => exact hw
  | succ fu ih =>
    unfold c_mtypeL
    split
    · have hw2 : wfm (mfl σ 1 n) := wfm_f (k := 1) hw (show (0 : Int) ≤ n ∧ n ≤ 400 by omega)
      exact hw2
    · split
      · have r_19 := byt_rg x (8 * k)
        exact ih hw (by omega) (by omega)
      · split
        · have r_19 := byt_rg x (8 * k)
          exact hw
        · split
          · have r_19 := byt_rg x (8 * k)
            exact hw
          · split
            · have r_19 := byt_rg x (8 * k)
              exact hw
            · have r_19 := byt_rg x (8 * k)
              have hw9 : wfm (mar σ 2 n (byt x (8 * k))) := wfm_a (k := 2) hw (show (0 : Int) ≤ (byt x (8 * k)) ∧ (byt x (8 * k)) ≤ 126 by omega)
              exact ih hw9 (by omega) (by omega)
theorem w_mtype {σ : mS} {x : Int64} (hw : wfm σ)  : wfm (c_mtype σ x).2 := by
  unfold c_mtype
  have hw1 : wfm (mfl σ 0 0) := wfm_f (k := 0) hw (show (0 : Int) ≤ 0 ∧ 0 ≤ 2 by omega)
  have g_6 := hw.f1
  exact w_mtypeL hw1  (9) (by omega) (by omega)
def c_mopenGroupsL (t : Int) : Nat → Int → Int → mS → Int
  | 0, _, _, σ => 0
  | fu + 1, n, g, σ => (if g < 0 then n else (c_mopenGroupsL t fu (n + 1) (mat (σ.2 7) ((24 * t) + g)) σ))
def c_mopenGroups (σ : mS) (t : Int) : Int := (c_mopenGroupsL t (25) 0 (mat (σ.2 8) t) σ)
theorem t_mopenGroupsL {l : Launch} {G : jG} {d : Nat} {σ : mS} {t : Int} {n g : Int} (hw : wfm σ) (hd : 0 ≤ d) (ht : 0 ≤ t ∧ t ≤ 3) (fu : Nat) (hn : 0 ≤ n ∧ n + g ≤ 23) (hg : -1 ≤ g ∧ g ≤ 23) (hgi : g < mat (σ.2 3) t) (hti : ∀ q : Int, 0 ≤ q → q < mat (σ.2 3) t → mat (σ.2 7) ((24 * t) + q) < q) (hm : g + 1 < (fu : Int)) : CJ jMod mown l G (Yx mX7_openGroups) d 0 0 9 [some (.ref 116), some (vi t), some (vi n), some (vi g)] [] σ (det (some (vi (c_mopenGroupsL t fu n g σ))) σ) := by
  induction fu generalizing σ n g with
  | zero => exact absurd hm (by omega)
  | succ fu ih =>
    refine C_iload_n dX7_openGroups_9 rfl ?_
    refine C_if_lt (tgt := 31) dX7_openGroups_10 (by decide) (by omega) (fun c_10 => ?_) (fun c_10 => ?_)
    · refine C_iload_n dX7_openGroups_31 rfl ?_
      refine C_iret dX7_openGroups_32 rfl ?_
      unfold det; rw [c_mopenGroupsL, if_pos (by omega)]; exact ⟨rfl, rfl⟩
    · refine C_iinc dX7_openGroups_13 rfl (by decide) rfl ?_
      simp only [List.set_cons_zero, List.set_cons_succ]
      refine C_aload_n dX7_openGroups_16 rfl ?_
      refine C_get (v := .ref 122) dX7_openGroups_17 f_X7_26 (fun h hc => ⟨_, hc.1, rfl⟩) ?_
      refine C_bipush dX7_openGroups_20 (by decide) ?_
      refine C_iload_n dX7_openGroups_22 rfl ?_
      refine C_imul dX7_openGroups_23 ?_
      refine C_iload_n dX7_openGroups_24 rfl ?_
      refine C_iadd dX7_openGroups_25 ?_
      refine C_iald (v := vi (mat (σ.2 7) ((24 * t) + g))) dX7_openGroups_26 (by omega) (by omega) (fun h hc => hc.rd7 hw (by omega) (by omega)) ?_
      have e_26 := hw.a7 ((24 * t) + g)
      refine C_istore_n dX7_openGroups_27 (by decide) rfl ?_
      simp only [List.set_cons_zero, List.set_cons_succ, jfin0, jfin1, jfin2, jfin3]
      refine C_goto (tgt := 9) dX7_openGroups_28 (by decide) ?_
      have hq := hti g (by omega) (by omega)
      rw [c_mopenGroupsL, if_neg (by omega)]
      refine CJ.mono (ls' := [some (.ref 116), some (vi t), some (vi (n + 1)), some (vi (mat (σ.2 7) ((24 * t) + g)))]) (lsub_ok (by repeat (first | exact trivial | refine ⟨rfl, ?_⟩))) (fun _ _ q => q) ?_
      exact ih hw (by omega) (by omega) (by omega) hti (by omega)
theorem t_mopenGroups {l : Launch} {G : jG} {d : Nat} {σ : mS} {t : Int} (hw : wfm σ) (hd : 0 ≤ d) (ht : 0 ≤ t ∧ t ≤ 3) (hgi : mat (σ.2 8) t < mat (σ.2 3) t) (hti : ∀ q : Int, 0 ≤ q → q < mat (σ.2 3) t → mat (σ.2 7) ((24 * t) + q) < q) : CJ jMod mown l G (Yx mX7_openGroups) d 0 0 0 [some (.ref 116), some (vi t), none, none] [] σ (det (some (vi (c_mopenGroups σ t))) σ) := by
  refine C_iconst dX7_openGroups_0 ?_
  refine C_istore_n dX7_openGroups_1 (by decide) rfl ?_
  simp only [List.set_cons_zero, List.set_cons_succ, jfin0, jfin1, jfin2, jfin3]
  refine C_aload_n dX7_openGroups_2 rfl ?_
  refine C_get (v := .ref 123) dX7_openGroups_3 f_X7_29 (fun h hc => ⟨_, hc.1, rfl⟩) ?_
  refine C_iload_n dX7_openGroups_6 rfl ?_
  refine C_iald (v := vi (mat (σ.2 8) t)) dX7_openGroups_7 (by omega) (by omega) (fun h hc => hc.rd8 hw (by omega) (by omega)) ?_
  have e_7 := hw.a8 t
  refine C_istore_n dX7_openGroups_8 (by decide) rfl ?_
  simp only [List.set_cons_zero, List.set_cons_succ, jfin0, jfin1, jfin2, jfin3]
  rw [c_mopenGroups]
  refine CJ.mono (ls' := [some (.ref 116), some (vi t), some (vi 0), some (vi (mat (σ.2 8) t))]) (lsub_ok (by repeat (first | exact trivial | refine ⟨rfl, ?_⟩))) (fun _ _ q => q) ?_
  exact t_mopenGroupsL hw hd ht (25) (by omega) (by omega) (by omega) hti (by omega)
theorem r_mopenGroupsL {σ : mS} {t : Int} {n g : Int} (hw : wfm σ) (ht : 0 ≤ t ∧ t ≤ 3) (fu : Nat) (hn : 0 ≤ n ∧ n + g ≤ 23) (hg : -1 ≤ g ∧ g ≤ 23) (hgi : g < mat (σ.2 3) t) (hti : ∀ q : Int, 0 ≤ q → q < mat (σ.2 3) t → mat (σ.2 7) ((24 * t) + q) < q) : 0 ≤ (c_mopenGroupsL t fu n g σ) ∧ (c_mopenGroupsL t fu n g σ) < 25 := by
  induction fu generalizing σ n g with
  | zero => unfold c_mopenGroupsL; omega
  | succ fu ih =>
    unfold c_mopenGroupsL
    split
    · omega
    · have e_26 := hw.a7 ((24 * t) + g)
      have hq := hti g (by omega) (by omega)
      exact ih hw (by omega) (by omega) (by omega) hti
theorem r_mopenGroups {σ : mS} {t : Int} (hw : wfm σ) (ht : 0 ≤ t ∧ t ≤ 3) (hgi : mat (σ.2 8) t < mat (σ.2 3) t) (hti : ∀ q : Int, 0 ≤ q → q < mat (σ.2 3) t → mat (σ.2 7) ((24 * t) + q) < q) : 0 ≤ (c_mopenGroups σ t) ∧ (c_mopenGroups σ t) < 25 := by
  unfold c_mopenGroups
  have e_7 := hw.a8 t
  exact r_mopenGroupsL hw ht (25) (by omega) (by omega) (by omega) hti
