theorem mbC_f {σ : mS} : (c_mbeginComponent σ).1 = upF σ.1 19 (σ.1 19 + 1) := by simp [c_mbeginComponent, mar, mfl]
theorem mat_set {xs : List Int} {i v : Int} (h : i.toNat < xs.length) : mat (xs.set i.toNat v) i = v := by
  simp [mat, h]
theorem mat_set_ne {xs : List Int} {i j v : Int} (h : i.toNat ≠ j.toNat) : mat (xs.set i.toNat v) j = mat xs j := by
  simp [mat, List.getD_eq_getElem?_getD, List.getElem?_set_ne h]
theorem wfm.len {σ : mS} (hw : wfm σ) {k : Nat} (hk : k < 53) : (σ.2 k).length = (mtab.getD k (0, 0, 0)).1 := (hw k hk).2.1
theorem wfm.l15 {σ : mS} (hw : wfm σ) : (σ.2 15).length = 41 := hw.len (k := 15) (by decide)
abbrev nInv (σ : mS) (a i : Int) : Prop := (0 ≤ a ∧ a ≤ 5) ∧ (σ.1 17 ≤ σ.1 19 ∧ σ.1 19 ≤ 120) ∧ (0 < a → σ.1 14 < 40) ∧ (a ≤ 3 → 4 * σ.1 14 + a + σ.1 19 + σ.1 21 ≤ i) ∧ (a = 4 → 4 * σ.1 14 + 3 + σ.1 19 + σ.1 21 ≤ i) ∧ (a = 5 → 4 * σ.1 14 + 4 + σ.1 19 + σ.1 21 ≤ i) ∧ (a = 1 → mat (σ.2 15) (σ.1 14) < 256) ∧ (a = 2 → mat (σ.2 15) (σ.1 14) < 65536)
def c_mbeginElement (σ : mS)  : mS := (mar (c_mbeginComponent (mfl (mar σ 18 (σ.1 17) (σ.1 19)) 17 ((σ.1 17) + 1)) ) 18 ((σ.1 17) + 1) ((σ.1 19) + 1))
theorem t_mbeginElement {l : Launch} {G : jG} {d : Nat} {σ : mS}  (hw : wfm σ) (hd : 1 ≤ d)  (hmc : σ.1 17 < 121 ∧ σ.1 19 < 121) : CJ jMod mown l G (Yx mX7_beginElement) d 0 0 0 [some (.ref 116)] [] σ (det none (c_mbeginElement σ )) := by
  refine C_aload_n dX7_beginElement_0 rfl ?_
  refine C_get (v := .ref 126) dX7_beginElement_1 f_X7_42 (fun h hc => ⟨_, hc.1, rfl⟩) ?_
  refine C_aload_n dX7_beginElement_4 rfl ?_
  refine C_get (v := vi (σ.1 17)) dX7_beginElement_5 f_X7_163 (fun h hc => ⟨_, hc.1, rfl⟩) ?_
  have g_5 := hw.f17
  refine C_aload_n dX7_beginElement_8 rfl ?_
  refine C_get (v := vi (σ.1 19)) dX7_beginElement_9 f_X7_157 (fun h hc => ⟨_, hc.1, rfl⟩) ?_
  have g_9 := hw.f19
  refine C_iast (σ' := (mar σ 18 (σ.1 17) (σ.1 19))) dX7_beginElement_12 (by omega) (by omega) mo18 (fun h hc => hc.st18 hw (by omega) (by omega)) ?_
  have hw1 : wfm (mar σ 18 (σ.1 17) (σ.1 19)) := wfm_a (k := 18) hw (show (0 : Int) ≤ (σ.1 19) ∧ (σ.1 19) ≤ 121 by omega)
  refine C_aload_n dX7_beginElement_13 rfl ?_
  refine C_dup dX7_beginElement_14 rfl ?_
  refine C_get (v := vi (σ.1 17)) dX7_beginElement_15 f_X7_163 (fun h hc => ⟨_, hc.1, congrArg (fun z => some (vi z)) (show ((mar σ 18 (σ.1 17) (σ.1 19)).1 17) = (σ.1 17) by simp [mfl, mar, upF])⟩) ?_
  have g_15 := hw.f17
  refine C_iconst dX7_beginElement_18 ?_
  refine C_iadd dX7_beginElement_19 ?_
  refine C_put (σ' := (mfl (mar σ 18 (σ.1 17) (σ.1 19)) 17 ((σ.1 17) + 1))) dX7_beginElement_20 f_X7_163 jfit_i mown_0 (fun h hc => hc.pf17) ?_
  have hw2 : wfm (mfl (mar σ 18 (σ.1 17) (σ.1 19)) 17 ((σ.1 17) + 1)) := wfm_f (k := 17) hw1 (show (0 : Int) ≤ ((σ.1 17) + 1) ∧ ((σ.1 17) + 1) ≤ 121 by omega)
  refine C_aload_n dX7_beginElement_23 rfl ?_
  refine D_callV (As := []) (d' := 0) (t_mbeginComponent hw2 (Nat.le_refl _)  (by first | omega | (simp only [mfl, mar, upF]; omega) | (simp [mfl, mar, upF]; omega))) dX7_beginElement_24 v_X7_166 (fun h hc => ⟨_, hc.1⟩) rfl (Nat.le_of_ble_eq_true rfl) (by omega) (Nat.le_of_ble_eq_true rfl) ?_
  simp only [Option.toList, List.nil_append, List.cons_append]
  have hw3 : wfm (c_mbeginComponent (mfl (mar σ 18 (σ.1 17) (σ.1 19)) 17 ((σ.1 17) + 1)) ) := w_mbeginComponent hw2  (by first | omega | (simp only [mfl, mar, upF]; omega) | (simp [mfl, mar, upF]; omega))
  refine C_aload_n dX7_beginElement_27 rfl ?_
  refine C_get (v := .ref 126) dX7_beginElement_28 f_X7_42 (fun h hc => ⟨_, hc.1, rfl⟩) ?_
  refine C_aload_n dX7_beginElement_31 rfl ?_
  refine C_get (v := vi ((σ.1 17) + 1)) dX7_beginElement_32 f_X7_163 (fun h hc => ⟨_, hc.1, congrArg (fun z => some (vi z)) (show ((c_mbeginComponent (mfl (mar σ 18 (σ.1 17) (σ.1 19)) 17 ((σ.1 17) + 1)) ).1 17) = ((σ.1 17) + 1) by simp [mfl, mar, upF, mbC_f])⟩) ?_
  refine C_aload_n dX7_beginElement_35 rfl ?_
  refine C_get (v := vi ((σ.1 19) + 1)) dX7_beginElement_36 f_X7_157 (fun h hc => ⟨_, hc.1, congrArg (fun z => some (vi z)) (show ((c_mbeginComponent (mfl (mar σ 18 (σ.1 17) (σ.1 19)) 17 ((σ.1 17) + 1)) ).1 19) = ((σ.1 19) + 1) by simp [mfl, mar, upF, mbC_f])⟩) ?_
  refine C_iast (σ' := (mar (c_mbeginComponent (mfl (mar σ 18 (σ.1 17) (σ.1 19)) 17 ((σ.1 17) + 1)) ) 18 ((σ.1 17) + 1) ((σ.1 19) + 1))) dX7_beginElement_39 (by omega) (by omega) mo18 (fun h hc => hc.st18 hw3 (by omega) (by omega)) ?_
  have hw4 : wfm (mar (c_mbeginComponent (mfl (mar σ 18 (σ.1 17) (σ.1 19)) 17 ((σ.1 17) + 1)) ) 18 ((σ.1 17) + 1) ((σ.1 19) + 1)) := wfm_a (k := 18) hw3 (show (0 : Int) ≤ ((σ.1 19) + 1) ∧ ((σ.1 19) + 1) ≤ 121 by omega)
  refine C_vret dX7_beginElement_40 rfl ⟨rfl, ?_⟩
  rw [c_mbeginElement]
theorem w_mbeginElement {σ : mS}  (hw : wfm σ)  (hmc : σ.1 17 < 121 ∧ σ.1 19 < 121) : wfm (c_mbeginElement σ ) := by
  unfold c_mbeginElement
  have g_5 := hw.f17
  have g_9 := hw.f19
  have hw1 : wfm (mar σ 18 (σ.1 17) (σ.1 19)) := wfm_a (k := 18) hw (show (0 : Int) ≤ (σ.1 19) ∧ (σ.1 19) ≤ 121 by omega)
  have g_15 := hw.f17
  have hw2 : wfm (mfl (mar σ 18 (σ.1 17) (σ.1 19)) 17 ((σ.1 17) + 1)) := wfm_f (k := 17) hw1 (show (0 : Int) ≤ ((σ.1 17) + 1) ∧ ((σ.1 17) + 1) ≤ 121 by omega)
  have hw3 : wfm (c_mbeginComponent (mfl (mar σ 18 (σ.1 17) (σ.1 19)) 17 ((σ.1 17) + 1)) ) := w_mbeginComponent hw2  (by first | omega | (simp only [mfl, mar, upF]; omega) | (simp [mfl, mar, upF]; omega))
  have hw4 : wfm (mar (c_mbeginComponent (mfl (mar σ 18 (σ.1 17) (σ.1 19)) 17 ((σ.1 17) + 1)) ) 18 ((σ.1 17) + 1) ((σ.1 19) + 1)) := wfm_a (k := 18) hw3 (show (0 : Int) ≤ ((σ.1 19) + 1) ∧ ((σ.1 19) + 1) ≤ 121 by omega)
  exact hw4
theorem mbE_f {σ : mS} : (c_mbeginElement σ).1 = upF (upF σ.1 17 (σ.1 17 + 1)) 19 (σ.1 19 + 1) := by simp [c_mbeginElement, mbC_f, mar, mfl, upF]
def c_mput (σ : mS) (c : Int) : mS := (mar (mfl (mar σ 22 (σ.1 21) c) 21 ((σ.1 21) + 1)) 20 (σ.1 19) ((σ.1 21) + 1))
theorem t_mput {l : Launch} {G : jG} {d : Nat} {σ : mS} {c : Int} (hw : wfm σ) (hd : 0 ≤ d) (hc : 0 ≤ c ∧ c ≤ 126) (hmc : σ.1 21 < 400) : CJ jMod mown l G (Yx mX7_put) d 0 0 0 [some (.ref 116), some (vi c)] [] σ (det none (c_mput σ c)) := by
  refine C_aload_n dX7_put_0 rfl ?_
  refine C_get (v := .ref 128) dX7_put_1 f_X7_48 (fun h hc => ⟨_, hc.1, rfl⟩) ?_
  refine C_aload_n dX7_put_4 rfl ?_
  refine C_get (v := vi (σ.1 21)) dX7_put_5 f_X7_160 (fun h hc => ⟨_, hc.1, rfl⟩) ?_
  have g_5 := hw.f21
  refine C_iload_n dX7_put_8 rfl ?_
  refine C_iast (σ' := (mar σ 22 (σ.1 21) c)) dX7_put_9 (by omega) (by omega) mo22 (fun h hc => hc.st22 hw (by omega) (by omega)) ?_
  have hw1 : wfm (mar σ 22 (σ.1 21) c) := wfm_a (k := 22) hw (show (0 : Int) ≤ c ∧ c ≤ 126 by omega)
  refine C_aload_n dX7_put_10 rfl ?_
  refine C_dup dX7_put_11 rfl ?_
  refine C_get (v := vi (σ.1 21)) dX7_put_12 f_X7_160 (fun h hc => ⟨_, hc.1, congrArg (fun z => some (vi z)) (show ((mar σ 22 (σ.1 21) c).1 21) = (σ.1 21) by simp [mfl, mar, upF])⟩) ?_
  have g_12 := hw.f21
  refine C_iconst dX7_put_15 ?_
  refine C_iadd dX7_put_16 ?_
  refine C_put (σ' := (mfl (mar σ 22 (σ.1 21) c) 21 ((σ.1 21) + 1))) dX7_put_17 f_X7_160 jfit_i mown_0 (fun h hc => hc.pf21) ?_
  have hw2 : wfm (mfl (mar σ 22 (σ.1 21) c) 21 ((σ.1 21) + 1)) := wfm_f (k := 21) hw1 (show (0 : Int) ≤ ((σ.1 21) + 1) ∧ ((σ.1 21) + 1) ≤ 400 by omega)
  refine C_aload_n dX7_put_20 rfl ?_
  refine C_get (v := .ref 127) dX7_put_21 f_X7_45 (fun h hc => ⟨_, hc.1, rfl⟩) ?_
  refine C_aload_n dX7_put_24 rfl ?_
  refine C_get (v := vi (σ.1 19)) dX7_put_25 f_X7_157 (fun h hc => ⟨_, hc.1, congrArg (fun z => some (vi z)) (show ((mfl (mar σ 22 (σ.1 21) c) 21 ((σ.1 21) + 1)).1 19) = (σ.1 19) by simp [mfl, mar, upF])⟩) ?_
  have g_25 := hw.f19
  refine C_aload_n dX7_put_28 rfl ?_
  refine C_get (v := vi ((σ.1 21) + 1)) dX7_put_29 f_X7_160 (fun h hc => ⟨_, hc.1, congrArg (fun z => some (vi z)) (show ((mfl (mar σ 22 (σ.1 21) c) 21 ((σ.1 21) + 1)).1 21) = ((σ.1 21) + 1) by simp [mfl, mar, upF])⟩) ?_
  refine C_iast (σ' := (mar (mfl (mar σ 22 (σ.1 21) c) 21 ((σ.1 21) + 1)) 20 (σ.1 19) ((σ.1 21) + 1))) dX7_put_32 (by omega) (by omega) mo20 (fun h hc => hc.st20 hw2 (by omega) (by omega)) ?_
  have hw3 : wfm (mar (mfl (mar σ 22 (σ.1 21) c) 21 ((σ.1 21) + 1)) 20 (σ.1 19) ((σ.1 21) + 1)) := wfm_a (k := 20) hw2 (show (0 : Int) ≤ ((σ.1 21) + 1) ∧ ((σ.1 21) + 1) ≤ 400 by omega)
  refine C_vret dX7_put_33 rfl ⟨rfl, ?_⟩
  rw [c_mput]
theorem w_mput {σ : mS} {c : Int} (hw : wfm σ) (hc : 0 ≤ c ∧ c ≤ 126) (hmc : σ.1 21 < 400) : wfm (c_mput σ c) := by
  unfold c_mput
  have g_5 := hw.f21
  have hw1 : wfm (mar σ 22 (σ.1 21) c) := wfm_a (k := 22) hw (show (0 : Int) ≤ c ∧ c ≤ 126 by omega)
  have g_12 := hw.f21
  have hw2 : wfm (mfl (mar σ 22 (σ.1 21) c) 21 ((σ.1 21) + 1)) := wfm_f (k := 21) hw1 (show (0 : Int) ≤ ((σ.1 21) + 1) ∧ ((σ.1 21) + 1) ≤ 400 by omega)
  have g_25 := hw.f19
  have hw3 : wfm (mar (mfl (mar σ 22 (σ.1 21) c) 21 ((σ.1 21) + 1)) 20 (σ.1 19) ((σ.1 21) + 1)) := wfm_a (k := 20) hw2 (show (0 : Int) ≤ ((σ.1 21) + 1) ∧ ((σ.1 21) + 1) ≤ 400 by omega)
  exact hw3
theorem mput_f {σ : mS} {c : Int} : (c_mput σ c).1 = upF σ.1 21 (σ.1 21 + 1) := by simp [c_mput, mar, mfl]
def c_mnext (σ : mS) (a : Int) (c : Int) : Int × mS := (if 3 ≤ a then (if a = 5 then (4, (c_mput σ c)) else (if c = (σ.1 12) then (0, (mar (mfl σ 14 ((σ.1 14) + 1)) 16 ((σ.1 14) + 1) (σ.1 17))) else (if c = (σ.1 10) then (if (σ.1 19) = 120 then ((-1), σ) else (4, (c_mbeginElement σ ))) else (if a = 3 then ((-1), σ) else (if c = (σ.1 9) then (if (σ.1 19) = 120 then ((-1), σ) else (4, (mar (c_mbeginComponent σ ) 18 (σ.1 17) ((σ.1 19) + 1)))) else (if c = (σ.1 11) then (5, σ) else (4, (c_mput σ c)))))))) else (if (c_misLetter σ c) = true then (if (σ.1 14) = 40 then ((-1), σ) else (if a = 0 then ((a + 1), (mar σ 15 (σ.1 14) c)) else ((a + 1), (mar σ 15 (σ.1 14) (((mat (σ.2 15) (σ.1 14)) * 256) + c))))) else ((-1), σ)))
theorem t_mnext {l : Launch} {G : jG} {d : Nat} {σ : mS} {a : Int} {c : Int} (hw : wfm σ) (hd : 2 ≤ d) (ha : 0 ≤ a ∧ a ≤ 5) (hc : 0 ≤ c ∧ c ≤ 126) {i : Int} (hn : nInv σ a i) (hi : i ≤ 399) : CJ jMod mown l G (Yx mX7_next) d 0 0 0 [some (.ref 116), some (vi a), some (vi c)] [] σ (det (some (vi (c_mnext σ a c).1)) (c_mnext σ a c).2) := by
  have g14 := hw.f14
  have g17 := hw.f17
  have g19 := hw.f19
  have g21 := hw.f21
  refine C_iload_n dX7_next_0 rfl ?_
  refine C_iconst dX7_next_1 ?_
  refine C_icmp_ge (tgt := 58) dX7_next_2 (by decide) (by omega) (by omega) (fun c_2 => ?_) (fun c_2 => ?_)
  · refine C_iload_n dX7_next_58 rfl ?_
    refine C_iconst dX7_next_59 ?_
    refine C_icmp_ne (tgt := 70) dX7_next_60 (by decide) (by omega) (by omega) (fun c_60 => ?_) (fun c_60 => ?_)
    · refine C_iload_n dX7_next_70 rfl ?_
      refine C_aload_n dX7_next_71 rfl ?_
      refine C_get (v := vi (σ.1 12)) dX7_next_72 f_X7_151 (fun h hc => ⟨_, hc.1, rfl⟩) ?_
      have g_72 := hw.f12
      refine C_icmp_ne (tgt := 103) dX7_next_75 (by decide) (by omega) (by omega) (fun c_75 => ?_) (fun c_75 => ?_)
      · refine C_iload_n dX7_next_103 rfl ?_
        refine C_aload_n dX7_next_104 rfl ?_
        refine C_get (v := vi (σ.1 10)) dX7_next_105 f_X7_145 (fun h hc => ⟨_, hc.1, rfl⟩) ?_
        have g_105 := hw.f10
        refine C_icmp_ne (tgt := 128) dX7_next_108 (by decide) (by omega) (by omega) (fun c_108 => ?_) (fun c_108 => ?_)
        · refine C_iload_n dX7_next_128 rfl ?_
          refine C_iconst dX7_next_129 ?_
          refine C_icmp_ne (tgt := 135) dX7_next_130 (by decide) (by omega) (by omega) (fun c_130 => ?_) (fun c_130 => ?_)
          · refine C_iload_n dX7_next_135 rfl ?_
            refine C_aload_n dX7_next_136 rfl ?_
            refine C_get (v := vi (σ.1 9)) dX7_next_137 f_X7_142 (fun h hc => ⟨_, hc.1, rfl⟩) ?_
            have g_137 := hw.f9
            refine C_icmp_ne (tgt := 173) dX7_next_140 (by decide) (by omega) (by omega) (fun c_140 => ?_) (fun c_140 => ?_)
            · refine C_iload_n dX7_next_173 rfl ?_
              refine C_aload_n dX7_next_174 rfl ?_
              refine C_get (v := vi (σ.1 11)) dX7_next_175 f_X7_148 (fun h hc => ⟨_, hc.1, rfl⟩) ?_
              have g_175 := hw.f11
              refine C_icmp_ne (tgt := 183) dX7_next_178 (by decide) (by omega) (by omega) (fun c_178 => ?_) (fun c_178 => ?_)
              · refine C_aload_n dX7_next_183 rfl ?_
                refine C_iload_n dX7_next_184 rfl ?_
                refine D_callV (As := [vi _]) (d' := 0) (t_mput hw (Nat.le_refl _) (by omega) (by first | omega | (simp only [mfl, mar, upF]; omega) | (simp [mfl, mar, upF]; omega))) dX7_next_185 v_X7_172 (fun h hc => ⟨_, hc.1⟩) rfl (Nat.le_of_ble_eq_true rfl) (by omega) (Nat.le_of_ble_eq_true rfl) ?_
                simp only [Option.toList, List.nil_append, List.cons_append]
                have hw8 : wfm (c_mput σ c) := w_mput hw (by omega) (by first | omega | (simp only [mfl, mar, upF]; omega) | (simp [mfl, mar, upF]; omega))
                refine C_iconst dX7_next_188 ?_
                refine C_iret dX7_next_189 rfl ?_
                unfold det; rw [c_mnext, if_pos (by omega), if_neg (by omega), if_neg (by omega), if_neg (by omega), if_neg (by omega), if_neg (by omega), if_neg (by omega)]; exact ⟨rfl, rfl⟩
              · refine C_iconst dX7_next_181 ?_
                refine C_iret dX7_next_182 rfl ?_
                unfold det; rw [c_mnext, if_pos (by omega), if_neg (by omega), if_neg (by omega), if_neg (by omega), if_neg (by omega), if_neg (by omega), if_pos (by omega)]; exact ⟨rfl, rfl⟩
            · refine C_aload_n dX7_next_143 rfl ?_
              refine C_get (v := vi (σ.1 19)) dX7_next_144 f_X7_157 (fun h hc => ⟨_, hc.1, rfl⟩) ?_
              have g_144 := hw.f19
              refine C_bipush dX7_next_147 (by decide) ?_
              refine C_icmp_ne (tgt := 154) dX7_next_149 (by decide) (by omega) (by omega) (fun c_149 => ?_) (fun c_149 => ?_)
              · refine C_aload_n dX7_next_154 rfl ?_
                refine D_callV (As := []) (d' := 0) (t_mbeginComponent hw (Nat.le_refl _)  (by first | omega | (simp only [mfl, mar, upF]; omega) | (simp [mfl, mar, upF]; omega))) dX7_next_155 v_X7_166 (fun h hc => ⟨_, hc.1⟩) rfl (Nat.le_of_ble_eq_true rfl) (by omega) (Nat.le_of_ble_eq_true rfl) ?_
                simp only [Option.toList, List.nil_append, List.cons_append]
                have hw10 : wfm (c_mbeginComponent σ ) := w_mbeginComponent hw  (by first | omega | (simp only [mfl, mar, upF]; omega) | (simp [mfl, mar, upF]; omega))
                refine C_aload_n dX7_next_158 rfl ?_
                refine C_get (v := .ref 126) dX7_next_159 f_X7_42 (fun h hc => ⟨_, hc.1, rfl⟩) ?_
                refine C_aload_n dX7_next_162 rfl ?_
                refine C_get (v := vi (σ.1 17)) dX7_next_163 f_X7_163 (fun h hc => ⟨_, hc.1, congrArg (fun z => some (vi z)) (show ((c_mbeginComponent σ ).1 17) = (σ.1 17) by simp [mfl, mar, upF, mbC_f])⟩) ?_
                have g_163 := hw.f17
                refine C_aload_n dX7_next_166 rfl ?_
                refine C_get (v := vi ((σ.1 19) + 1)) dX7_next_167 f_X7_157 (fun h hc => ⟨_, hc.1, congrArg (fun z => some (vi z)) (show ((c_mbeginComponent σ ).1 19) = ((σ.1 19) + 1) by simp [mfl, mar, upF, mbC_f])⟩) ?_
                refine C_iast (σ' := (mar (c_mbeginComponent σ ) 18 (σ.1 17) ((σ.1 19) + 1))) dX7_next_170 (by omega) (by omega) mo18 (fun h hc => hc.st18 hw10 (by omega) (by omega)) ?_
                have hw11 : wfm (mar (c_mbeginComponent σ ) 18 (σ.1 17) ((σ.1 19) + 1)) := wfm_a (k := 18) hw10 (show (0 : Int) ≤ ((σ.1 19) + 1) ∧ ((σ.1 19) + 1) ≤ 121 by omega)
                refine C_iconst dX7_next_171 ?_
                refine C_iret dX7_next_172 rfl ?_
                unfold det; rw [c_mnext, if_pos (by omega), if_neg (by omega), if_neg (by omega), if_neg (by omega), if_neg (by omega), if_pos (by omega), if_neg (by omega)]; exact ⟨rfl, rfl⟩
              · refine C_iconst dX7_next_152 ?_
                refine C_iret dX7_next_153 rfl ?_
                unfold det; rw [c_mnext, if_pos (by omega), if_neg (by omega), if_neg (by omega), if_neg (by omega), if_neg (by omega), if_pos (by omega), if_pos (by omega)]; exact ⟨rfl, rfl⟩
          · refine C_iconst dX7_next_133 ?_
            refine C_iret dX7_next_134 rfl ?_
            unfold det; rw [c_mnext, if_pos (by omega), if_neg (by omega), if_neg (by omega), if_neg (by omega), if_pos (by omega)]; exact ⟨rfl, rfl⟩
        · refine C_aload_n dX7_next_111 rfl ?_
          refine C_get (v := vi (σ.1 19)) dX7_next_112 f_X7_157 (fun h hc => ⟨_, hc.1, rfl⟩) ?_
          have g_112 := hw.f19
          refine C_bipush dX7_next_115 (by decide) ?_
          refine C_icmp_ne (tgt := 122) dX7_next_117 (by decide) (by omega) (by omega) (fun c_117 => ?_) (fun c_117 => ?_)
          · refine C_aload_n dX7_next_122 rfl ?_
            refine D_callV (As := []) (d' := 1) (t_mbeginElement hw (Nat.le_refl _)  (by first | omega | (simp only [mfl, mar, upF]; omega) | (simp [mfl, mar, upF]; omega))) dX7_next_123 v_X7_176 (fun h hc => ⟨_, hc.1⟩) rfl (Nat.le_of_ble_eq_true rfl) (by omega) (Nat.le_of_ble_eq_true rfl) ?_
            simp only [Option.toList, List.nil_append, List.cons_append]
            have hw13 : wfm (c_mbeginElement σ ) := w_mbeginElement hw  (by first | omega | (simp only [mfl, mar, upF]; omega) | (simp [mfl, mar, upF]; omega))
            refine C_iconst dX7_next_126 ?_
            refine C_iret dX7_next_127 rfl ?_
            unfold det; rw [c_mnext, if_pos (by omega), if_neg (by omega), if_neg (by omega), if_pos (by omega), if_neg (by omega)]; exact ⟨rfl, rfl⟩
          · refine C_iconst dX7_next_120 ?_
            refine C_iret dX7_next_121 rfl ?_
            unfold det; rw [c_mnext, if_pos (by omega), if_neg (by omega), if_neg (by omega), if_pos (by omega), if_pos (by omega)]; exact ⟨rfl, rfl⟩
      · refine C_aload_n dX7_next_78 rfl ?_
        refine C_dup dX7_next_79 rfl ?_
        refine C_get (v := vi (σ.1 14)) dX7_next_80 f_X7_169 (fun h hc => ⟨_, hc.1, rfl⟩) ?_
        have g_80 := hw.f14
        refine C_iconst dX7_next_83 ?_
        refine C_iadd dX7_next_84 ?_
        refine C_put (σ' := (mfl σ 14 ((σ.1 14) + 1))) dX7_next_85 f_X7_169 jfit_i mown_0 (fun h hc => hc.pf14) ?_
        have hw14 : wfm (mfl σ 14 ((σ.1 14) + 1)) := wfm_f (k := 14) hw (show (0 : Int) ≤ ((σ.1 14) + 1) ∧ ((σ.1 14) + 1) ≤ 40 by omega)
        refine C_aload_n dX7_next_88 rfl ?_
        refine C_get (v := .ref 125) dX7_next_89 f_X7_39 (fun h hc => ⟨_, hc.1, rfl⟩) ?_
        refine C_aload_n dX7_next_92 rfl ?_
        refine C_get (v := vi ((σ.1 14) + 1)) dX7_next_93 f_X7_169 (fun h hc => ⟨_, hc.1, congrArg (fun z => some (vi z)) (show ((mfl σ 14 ((σ.1 14) + 1)).1 14) = ((σ.1 14) + 1) by simp [mfl, mar, upF])⟩) ?_
        refine C_aload_n dX7_next_96 rfl ?_
        refine C_get (v := vi (σ.1 17)) dX7_next_97 f_X7_163 (fun h hc => ⟨_, hc.1, congrArg (fun z => some (vi z)) (show ((mfl σ 14 ((σ.1 14) + 1)).1 17) = (σ.1 17) by simp [mfl, mar, upF])⟩) ?_
        have g_97 := hw.f17
        refine C_iast (σ' := (mar (mfl σ 14 ((σ.1 14) + 1)) 16 ((σ.1 14) + 1) (σ.1 17))) dX7_next_100 (by omega) (by omega) mo16 (fun h hc => hc.st16 hw14 (by omega) (by omega)) ?_
        have hw15 : wfm (mar (mfl σ 14 ((σ.1 14) + 1)) 16 ((σ.1 14) + 1) (σ.1 17)) := wfm_a (k := 16) hw14 (show (0 : Int) ≤ (σ.1 17) ∧ (σ.1 17) ≤ 121 by omega)
        refine C_iconst dX7_next_101 ?_
        refine C_iret dX7_next_102 rfl ?_
        unfold det; rw [c_mnext, if_pos (by omega), if_neg (by omega), if_pos (by omega)]; exact ⟨rfl, rfl⟩
    · refine C_aload_n dX7_next_63 rfl ?_
      refine C_iload_n dX7_next_64 rfl ?_
      refine D_callV (As := [vi _]) (d' := 0) (t_mput hw (Nat.le_refl _) (by omega) (by first | omega | (simp only [mfl, mar, upF]; omega) | (simp [mfl, mar, upF]; omega))) dX7_next_65 v_X7_172 (fun h hc => ⟨_, hc.1⟩) rfl (Nat.le_of_ble_eq_true rfl) (by omega) (Nat.le_of_ble_eq_true rfl) ?_
      simp only [Option.toList, List.nil_append, List.cons_append]
      have hw16 : wfm (c_mput σ c) := w_mput hw (by omega) (by first | omega | (simp only [mfl, mar, upF]; omega) | (simp [mfl, mar, upF]; omega))
      refine C_iconst dX7_next_68 ?_
      refine C_iret dX7_next_69 rfl ?_
      unfold det; rw [c_mnext, if_pos (by omega), if_pos (by omega)]; exact ⟨rfl, rfl⟩
  · refine C_iload_n dX7_next_5 rfl ?_
    refine D_callS (As := [vi _]) (d' := 0) (t_misLetter hw (Nat.le_refl _) (by omega)) dX7_next_6 s_X7_108 rfl (Nat.le_of_ble_eq_true rfl) (by omega) (Nat.le_of_ble_eq_true rfl) ?_
    simp only [Option.toList, List.nil_append, List.cons_append]
    refine C_if_eqZ (tgt := 21) dX7_next_9 (by decide) (fun c_9 => ?_) (fun c_9 => ?_)
    · refine C_iconst dX7_next_21 ?_
      refine C_iret dX7_next_22 rfl ?_
      unfold det; rw [c_mnext, if_neg (by omega), if_neg (by rw [c_9]; decide)]; exact ⟨rfl, rfl⟩
    · have b_9_17 := misLetter_t (σ := _) (c := c) (by assumption)
      refine C_aload_n dX7_next_12 rfl ?_
      refine C_get (v := vi (σ.1 14)) dX7_next_13 f_X7_169 (fun h hc => ⟨_, hc.1, rfl⟩) ?_
      have g_13 := hw.f14
      refine C_bipush dX7_next_16 (by decide) ?_
      refine C_icmp_ne (tgt := 23) dX7_next_18 (by decide) (by omega) (by omega) (fun c_18 => ?_) (fun c_18 => ?_)
      · refine C_aload_n dX7_next_23 rfl ?_
        refine C_get (v := .ref 124) dX7_next_24 f_X7_36 (fun h hc => ⟨_, hc.1, rfl⟩) ?_
        refine C_aload_n dX7_next_27 rfl ?_
        refine C_get (v := vi (σ.1 14)) dX7_next_28 f_X7_169 (fun h hc => ⟨_, hc.1, rfl⟩) ?_
        have g_28 := hw.f14
        refine C_iload_n dX7_next_31 rfl ?_
        refine C_if_ne (tgt := 39) dX7_next_32 (by decide) (by omega) (fun c_32 => ?_) (fun c_32 => ?_)
        · refine C_aload_n dX7_next_39 rfl ?_
          refine C_get (v := .ref 124) dX7_next_40 f_X7_36 (fun h hc => ⟨_, hc.1, rfl⟩) ?_
          refine C_aload_n dX7_next_43 rfl ?_
          refine C_get (v := vi (σ.1 14)) dX7_next_44 f_X7_169 (fun h hc => ⟨_, hc.1, rfl⟩) ?_
          have g_44 := hw.f14
          refine C_iald (v := vi (mat (σ.2 15) (σ.1 14))) dX7_next_47 (by omega) (by omega) (fun h hc => hc.rd15 hw (by omega) (by omega)) ?_
          have e_47 := hw.a15 (σ.1 14)
          refine C_bipush dX7_next_48 (by decide) ?_
          refine C_ishl8 dX7_next_50 (by omega) (by omega) ?_
          refine C_iload_n dX7_next_51 rfl ?_
          refine C_ior8 dX7_next_52 (by omega) (by omega) (by omega) (by omega) ?_
          refine C_iast (σ' := (mar σ 15 (σ.1 14) (((mat (σ.2 15) (σ.1 14)) * 256) + c))) dX7_next_53 (by omega) (by omega) mo15 (fun h hc => hc.st15 hw (by omega) (by omega)) ?_
          have hw20 : wfm (mar σ 15 (σ.1 14) (((mat (σ.2 15) (σ.1 14)) * 256) + c)) := wfm_a (k := 15) hw (show (0 : Int) ≤ (((mat (σ.2 15) (σ.1 14)) * 256) + c) ∧ (((mat (σ.2 15) (σ.1 14)) * 256) + c) ≤ 16777215 by omega)
          refine C_iload_n dX7_next_54 rfl ?_
          refine C_iconst dX7_next_55 ?_
          refine C_iadd dX7_next_56 ?_
          refine C_iret dX7_next_57 rfl ?_
          unfold det; rw [c_mnext, if_neg (by omega), if_pos c_9, if_neg (by omega), if_neg (by omega)]; exact ⟨rfl, rfl⟩
        · refine C_iload_n dX7_next_35 rfl ?_
          refine C_goto (tgt := 53) dX7_next_36 (by decide) ?_
          refine C_iast (σ' := (mar σ 15 (σ.1 14) c)) dX7_next_53 (by omega) (by omega) mo15 (fun h hc => hc.st15 hw (by omega) (by omega)) ?_
          have hw21 : wfm (mar σ 15 (σ.1 14) c) := wfm_a (k := 15) hw (show (0 : Int) ≤ c ∧ c ≤ 16777215 by omega)
          refine C_iload_n dX7_next_54 rfl ?_
          refine C_iconst dX7_next_55 ?_
          refine C_iadd dX7_next_56 ?_
          refine C_iret dX7_next_57 rfl ?_
          unfold det; rw [c_mnext, if_neg (by omega), if_pos c_9, if_neg (by omega), if_pos (by omega)]; exact ⟨rfl, rfl⟩
      · refine C_iconst dX7_next_21 ?_
        refine C_iret dX7_next_22 rfl ?_
        unfold det; rw [c_mnext, if_neg (by omega), if_pos c_9, if_pos (by omega)]; exact ⟨rfl, rfl⟩
theorem r_mnext {σ : mS} {a : Int} {c : Int} (hw : wfm σ) (ha : 0 ≤ a ∧ a ≤ 5) (hc : 0 ≤ c ∧ c ≤ 126) {i : Int} (hn : nInv σ a i) (hi : i ≤ 399) : -1 ≤ (c_mnext σ a c).1 ∧ (c_mnext σ a c).1 < 6 := by
  have g14 := hw.f14
  have g17 := hw.f17
  have g19 := hw.f19
  have g21 := hw.f21
  unfold c_mnext
  split
  · split
    · have hw16 : wfm (c_mput σ c) := w_mput hw (by omega) (by first | omega | (simp only [mfl, mar, upF]; omega) | (simp [mfl, mar, upF]; omega))
      omega
    · split
      · have g_72 := hw.f12
        have g_80 := hw.f14
        have hw14 : wfm (mfl σ 14 ((σ.1 14) + 1)) := wfm_f (k := 14) hw (show (0 : Int) ≤ ((σ.1 14) + 1) ∧ ((σ.1 14) + 1) ≤ 40 by omega)
        have g_97 := hw.f17
        have hw15 : wfm (mar (mfl σ 14 ((σ.1 14) + 1)) 16 ((σ.1 14) + 1) (σ.1 17)) := wfm_a (k := 16) hw14 (show (0 : Int) ≤ (σ.1 17) ∧ (σ.1 17) ≤ 121 by omega)
        omega
      · split
        · split
          · have g_72 := hw.f12
            have g_105 := hw.f10
            have g_112 := hw.f19
            omega
          · have g_72 := hw.f12
            have g_105 := hw.f10
            have g_112 := hw.f19
            have hw13 : wfm (c_mbeginElement σ ) := w_mbeginElement hw  (by first | omega | (simp only [mfl, mar, upF]; omega) | (simp [mfl, mar, upF]; omega))
            omega
        · split
          · have g_72 := hw.f12
            have g_105 := hw.f10
            omega
          · split
            · split
              · have g_72 := hw.f12
                have g_105 := hw.f10
                have g_137 := hw.f9
                have g_144 := hw.f19
                omega
              · have g_72 := hw.f12
                have g_105 := hw.f10
                have g_137 := hw.f9
                have g_144 := hw.f19
                have hw10 : wfm (c_mbeginComponent σ ) := w_mbeginComponent hw  (by first | omega | (simp only [mfl, mar, upF]; omega) | (simp [mfl, mar, upF]; omega))
                have g_163 := hw.f17
                have hw11 : wfm (mar (c_mbeginComponent σ ) 18 (σ.1 17) ((σ.1 19) + 1)) := wfm_a (k := 18) hw10 (show (0 : Int) ≤ ((σ.1 19) + 1) ∧ ((σ.1 19) + 1) ≤ 121 by omega)
                omega
            · split
              · have g_72 := hw.f12
                have g_105 := hw.f10
                have g_137 := hw.f9
                have g_175 := hw.f11
                omega
              · have g_72 := hw.f12
                have g_105 := hw.f10
                have g_137 := hw.f9
                have g_175 := hw.f11
                have hw8 : wfm (c_mput σ c) := w_mput hw (by omega) (by first | omega | (simp only [mfl, mar, upF]; omega) | (simp [mfl, mar, upF]; omega))
                omega
  · split
    · split
      · have b_9_17 := misLetter_t (σ := _) (c := c) (by assumption)
        have g_13 := hw.f14
        omega
      · split
        · have b_9_17 := misLetter_t (σ := _) (c := c) (by assumption)
          have g_13 := hw.f14
          have g_28 := hw.f14
          have hw21 : wfm (mar σ 15 (σ.1 14) c) := wfm_a (k := 15) hw (show (0 : Int) ≤ c ∧ c ≤ 16777215 by omega)
          omega
        · have b_9_17 := misLetter_t (σ := _) (c := c) (by assumption)
          have g_13 := hw.f14
          have g_28 := hw.f14
          have g_44 := hw.f14
          have e_47 := hw.a15 (σ.1 14)
          have hw20 : wfm (mar σ 15 (σ.1 14) (((mat (σ.2 15) (σ.1 14)) * 256) + c)) := wfm_a (k := 15) hw (show (0 : Int) ≤ (((mat (σ.2 15) (σ.1 14)) * 256) + c) ∧ (((mat (σ.2 15) (σ.1 14)) * 256) + c) ≤ 16777215 by omega)
          omega
    · omega
theorem w_mnext {σ : mS} {a : Int} {c : Int} (hw : wfm σ) (ha : 0 ≤ a ∧ a ≤ 5) (hc : 0 ≤ c ∧ c ≤ 126) {i : Int} (hn : nInv σ a i) (hi : i ≤ 399) : wfm (c_mnext σ a c).2 := by
  have g14 := hw.f14
  have g17 := hw.f17
  have g19 := hw.f19
  have g21 := hw.f21
  unfold c_mnext
  split
  · split
    · have hw16 : wfm (c_mput σ c) := w_mput hw (by omega) (by first | omega | (simp only [mfl, mar, upF]; omega) | (simp [mfl, mar, upF]; omega))
      exact hw16
    · split
      · have g_72 := hw.f12
        have g_80 := hw.f14
        have hw14 : wfm (mfl σ 14 ((σ.1 14) + 1)) := wfm_f (k := 14) hw (show (0 : Int) ≤ ((σ.1 14) + 1) ∧ ((σ.1 14) + 1) ≤ 40 by omega)
        have g_97 := hw.f17
        have hw15 : wfm (mar (mfl σ 14 ((σ.1 14) + 1)) 16 ((σ.1 14) + 1) (σ.1 17)) := wfm_a (k := 16) hw14 (show (0 : Int) ≤ (σ.1 17) ∧ (σ.1 17) ≤ 121 by omega)
        exact hw15
      · split
        · split
          · have g_72 := hw.f12
            have g_105 := hw.f10
            have g_112 := hw.f19
            exact hw
          · have g_72 := hw.f12
            have g_105 := hw.f10
            have g_112 := hw.f19
            have hw13 : wfm (c_mbeginElement σ ) := w_mbeginElement hw  (by first | omega | (simp only [mfl, mar, upF]; omega) | (simp [mfl, mar, upF]; omega))
            exact hw13
        · split
          · have g_72 := hw.f12
            have g_105 := hw.f10
            exact hw
          · split
            · split
              · have g_72 := hw.f12
                have g_105 := hw.f10
                have g_137 := hw.f9
                have g_144 := hw.f19
                exact hw
              · have g_72 := hw.f12
                have g_105 := hw.f10
                have g_137 := hw.f9
                have g_144 := hw.f19
                have hw10 : wfm (c_mbeginComponent σ ) := w_mbeginComponent hw  (by first | omega | (simp only [mfl, mar, upF]; omega) | (simp [mfl, mar, upF]; omega))
                have g_163 := hw.f17
                have hw11 : wfm (mar (c_mbeginComponent σ ) 18 (σ.1 17) ((σ.1 19) + 1)) := wfm_a (k := 18) hw10 (show (0 : Int) ≤ ((σ.1 19) + 1) ∧ ((σ.1 19) + 1) ≤ 121 by omega)
                exact hw11
            · split
              · have g_72 := hw.f12
                have g_105 := hw.f10
                have g_137 := hw.f9
                have g_175 := hw.f11
                exact hw
              · have g_72 := hw.f12
                have g_105 := hw.f10
                have g_137 := hw.f9
                have g_175 := hw.f11
                have hw8 : wfm (c_mput σ c) := w_mput hw (by omega) (by first | omega | (simp only [mfl, mar, upF]; omega) | (simp [mfl, mar, upF]; omega))
                exact hw8
  · split
    · split
      · have b_9_17 := misLetter_t (σ := _) (c := c) (by assumption)
        have g_13 := hw.f14
        exact hw
      · split
        · have b_9_17 := misLetter_t (σ := _) (c := c) (by assumption)
          have g_13 := hw.f14
          have g_28 := hw.f14
          have hw21 : wfm (mar σ 15 (σ.1 14) c) := wfm_a (k := 15) hw (show (0 : Int) ≤ c ∧ c ≤ 16777215 by omega)
          exact hw21
        · have b_9_17 := misLetter_t (σ := _) (c := c) (by assumption)
          have g_13 := hw.f14
          have g_28 := hw.f14
          have g_44 := hw.f14
          have e_47 := hw.a15 (σ.1 14)
          have hw20 : wfm (mar σ 15 (σ.1 14) (((mat (σ.2 15) (σ.1 14)) * 256) + c)) := wfm_a (k := 15) hw (show (0 : Int) ≤ (((mat (σ.2 15) (σ.1 14)) * 256) + c) ∧ (((mat (σ.2 15) (σ.1 14)) * 256) + c) ≤ 16777215 by omega)
          exact hw20
    · exact hw
theorem n_mnext {σ : mS} {a c i : Int} (hw : wfm σ) (hc : 0 ≤ c ∧ c ≤ 126) (hn : nInv σ a i) (hi : i ≤ 399) : 0 ≤ (c_mnext σ a c).1 → nInv (c_mnext σ a c).2 (c_mnext σ a c).1 (i + 1) := by
  have hl := hw.l15
  have g14 := hw.f14
  have e15 := hw.a15 (σ.1 14)
  have g17 := hw.f17
  have g19 := hw.f19
  have g21 := hw.f21
  unfold c_mnext
  have el : ∀ v : Int, mat ((σ.2 15).set (σ.1 14).toNat v) (σ.1 14) = v := fun v => mat_set (by rw [hl]; omega)
  (repeat' split) <;> intro hz <;> simp only [nInv, mbC_f, mbE_f, mput_f, mfl, mar, upF] at hn hz ⊢ <;> simp [el] at hz ⊢ <;> omega
def c_mscansL  : Nat → Int → Int → mS → Bool × mS
  | 0, _, _, σ => (false, σ)
  | fu + 1, i, a, σ => (if (σ.1 1) ≤ i then (if 0 ≤ a then (if a = 0 then (if (σ.1 14) ≤ 0 then (false, (mfl σ 13 (σ.1 1))) else (true, (mfl σ 13 (σ.1 1)))) else (false, (mfl σ 13 (σ.1 1)))) else (false, σ)) else (if a < 0 then (if 0 ≤ a then (if a = 0 then (if (σ.1 14) ≤ 0 then (false, (mfl σ 13 (σ.1 1))) else (true, (mfl σ 13 (σ.1 1)))) else (false, (mfl σ 13 (σ.1 1)))) else (false, σ)) else (c_mscansL  fu (i + 1) ((c_mnext (mfl σ 13 i) a (mat (σ.2 2) i)).1) (c_mnext (mfl σ 13 i) a (mat (σ.2 2) i)).2)))
def c_mscans (σ : mS)  : Bool × mS := (if 0 ≤ (c_mmarks σ ).1 then (c_mscansL  (402) ((c_mmarks σ ).1) 0 (mar (mar (mar (mfl (mfl (mfl (mfl (c_mmarks σ ).2 14 0) 17 0) 19 0) 21 0) 16 0 0) 18 0 0) 20 0 0)) else (false, (c_mmarks σ ).2))
theorem t_mscansL {l : Launch} {G : jG} {d : Nat} {σ : mS}  {i a : Int} (hw : wfm σ) (hd : 3 ≤ d)  (fu : Nat) (hi : 0 ≤ i ∧ i ≤ 401) (ha : -1 ≤ a ∧ a ≤ 5) (hn : 0 ≤ a → nInv σ a i) (hm : 401 - i < (fu : Int)) : CJ jMod mown l G (Yx mX7_scans) d 0 0 54 [some (.ref 116), some (vi i), some (vi a)] [] σ (det (some (vi (bz (c_mscansL  fu i a σ).1))) (c_mscansL  fu i a σ).2) := by
  induction fu generalizing σ i a with
  | zero => exact absurd hm (by omega)
  | succ fu ih =>
    refine C_iload_n dX7_scans_54 rfl ?_
    refine C_aload_n dX7_scans_55 rfl ?_
    refine C_get (v := vi (σ.1 1)) dX7_scans_56 f_X7_105 (fun h hc => ⟨_, hc.1, rfl⟩) ?_
    have g_56 := hw.f1
    refine C_icmp_ge (tgt := 89) dX7_scans_59 (by decide) (by omega) (by omega) (fun c_59 => ?_) (fun c_59 => ?_)
    · refine C_iload_n dX7_scans_89 rfl ?_
      refine C_if_ge (tgt := 95) dX7_scans_90 (by decide) (by omega) (fun c_90 => ?_) (fun c_90 => ?_)
      · refine C_aload_n dX7_scans_95 rfl ?_
        refine C_aload_n dX7_scans_96 rfl ?_
        refine C_get (v := vi (σ.1 1)) dX7_scans_97 f_X7_105 (fun h hc => ⟨_, hc.1, rfl⟩) ?_
        have g_97 := hw.f1
        refine C_put (σ' := (mfl σ 13 (σ.1 1))) dX7_scans_100 f_X7_32 jfit_i mown_0 (fun h hc => hc.pf13) ?_
        have hw3 : wfm (mfl σ 13 (σ.1 1)) := wfm_f (k := 13) hw (show (-1 : Int) ≤ (σ.1 1) ∧ (σ.1 1) ≤ 400 by omega)
        refine C_iload_n dX7_scans_103 rfl ?_
        refine C_if_ne (tgt := 118) dX7_scans_104 (by decide) (by omega) (fun c_104 => ?_) (fun c_104 => ?_)
        · refine C_iconst dX7_scans_118 ?_
          refine C_zret dX7_scans_119 rfl (by first | exact Or.inl rfl | exact Or.inr rfl | exact bz_01 _) ?_
          unfold det; rw [c_mscansL, if_pos (by omega), if_pos (by omega), if_neg (by omega)]; exact ⟨rfl, rfl⟩
        · refine C_aload_n dX7_scans_107 rfl ?_
          refine C_get (v := vi (σ.1 14)) dX7_scans_108 f_X7_169 (fun h hc => ⟨_, hc.1, congrArg (fun z => some (vi z)) (show ((mfl σ 13 (σ.1 1)).1 14) = (σ.1 14) by simp [mfl, mar, upF])⟩) ?_
          have g_108 := hw.f14
          refine C_if_le (tgt := 118) dX7_scans_111 (by decide) (by omega) (fun c_111 => ?_) (fun c_111 => ?_)
          · refine C_iconst dX7_scans_118 ?_
            refine C_zret dX7_scans_119 rfl (by first | exact Or.inl rfl | exact Or.inr rfl | exact bz_01 _) ?_
            unfold det; rw [c_mscansL, if_pos (by omega), if_pos (by omega), if_pos (by omega), if_pos (by omega)]; exact ⟨rfl, rfl⟩
          · refine C_iconst dX7_scans_114 ?_
            refine C_goto (tgt := 119) dX7_scans_115 (by decide) ?_
            refine C_zret dX7_scans_119 rfl (by first | exact Or.inl rfl | exact Or.inr rfl | exact bz_01 _) ?_
            unfold det; rw [c_mscansL, if_pos (by omega), if_pos (by omega), if_pos (by omega), if_neg (by omega)]; exact ⟨rfl, rfl⟩
      · refine C_iconst dX7_scans_93 ?_
        refine C_zret dX7_scans_94 rfl (by first | exact Or.inl rfl | exact Or.inr rfl | exact bz_01 _) ?_
        unfold det; rw [c_mscansL, if_pos (by omega), if_neg (by omega)]; exact ⟨rfl, rfl⟩
    · refine C_iload_n dX7_scans_62 rfl ?_
      refine C_if_lt (tgt := 89) dX7_scans_63 (by decide) (by omega) (fun c_63 => ?_) (fun c_63 => ?_)
      · refine C_iload_n dX7_scans_89 rfl ?_
        refine C_if_ge (tgt := 95) dX7_scans_90 (by decide) (by omega) (fun c_90 => ?_) (fun c_90 => ?_)
        · refine C_aload_n dX7_scans_95 rfl ?_
          refine C_aload_n dX7_scans_96 rfl ?_
          refine C_get (v := vi (σ.1 1)) dX7_scans_97 f_X7_105 (fun h hc => ⟨_, hc.1, rfl⟩) ?_
          have g_97 := hw.f1
          refine C_put (σ' := (mfl σ 13 (σ.1 1))) dX7_scans_100 f_X7_32 jfit_i mown_0 (fun h hc => hc.pf13) ?_
          have hw8 : wfm (mfl σ 13 (σ.1 1)) := wfm_f (k := 13) hw (show (-1 : Int) ≤ (σ.1 1) ∧ (σ.1 1) ≤ 400 by omega)
          refine C_iload_n dX7_scans_103 rfl ?_
          refine C_if_ne (tgt := 118) dX7_scans_104 (by decide) (by omega) (fun c_104 => ?_) (fun c_104 => ?_)
          · refine C_iconst dX7_scans_118 ?_
            refine C_zret dX7_scans_119 rfl (by first | exact Or.inl rfl | exact Or.inr rfl | exact bz_01 _) ?_
            unfold det; rw [c_mscansL, if_neg (by omega), if_pos (by omega), if_pos (by omega), if_neg (by omega)]; exact ⟨rfl, rfl⟩
          · refine C_aload_n dX7_scans_107 rfl ?_
            refine C_get (v := vi (σ.1 14)) dX7_scans_108 f_X7_169 (fun h hc => ⟨_, hc.1, congrArg (fun z => some (vi z)) (show ((mfl σ 13 (σ.1 1)).1 14) = (σ.1 14) by simp [mfl, mar, upF])⟩) ?_
            have g_108 := hw.f14
            refine C_if_le (tgt := 118) dX7_scans_111 (by decide) (by omega) (fun c_111 => ?_) (fun c_111 => ?_)
            · refine C_iconst dX7_scans_118 ?_
              refine C_zret dX7_scans_119 rfl (by first | exact Or.inl rfl | exact Or.inr rfl | exact bz_01 _) ?_
              unfold det; rw [c_mscansL, if_neg (by omega), if_pos (by omega), if_pos (by omega), if_pos (by omega), if_pos (by omega)]; exact ⟨rfl, rfl⟩
            · refine C_iconst dX7_scans_114 ?_
              refine C_goto (tgt := 119) dX7_scans_115 (by decide) ?_
              refine C_zret dX7_scans_119 rfl (by first | exact Or.inl rfl | exact Or.inr rfl | exact bz_01 _) ?_
              unfold det; rw [c_mscansL, if_neg (by omega), if_pos (by omega), if_pos (by omega), if_pos (by omega), if_neg (by omega)]; exact ⟨rfl, rfl⟩
        · refine C_iconst dX7_scans_93 ?_
          refine C_zret dX7_scans_94 rfl (by first | exact Or.inl rfl | exact Or.inr rfl | exact bz_01 _) ?_
          unfold det; rw [c_mscansL, if_neg (by omega), if_pos (by omega), if_neg (by omega)]; exact ⟨rfl, rfl⟩
      · refine C_aload_n dX7_scans_66 rfl ?_
        refine C_iload_n dX7_scans_67 rfl ?_
        refine C_put (σ' := (mfl σ 13 i)) dX7_scans_68 f_X7_32 jfit_i mown_0 (fun h hc => hc.pf13) ?_
        have hw11 : wfm (mfl σ 13 i) := wfm_f (k := 13) hw (show (-1 : Int) ≤ i ∧ i ≤ 400 by omega)
        refine C_aload_n dX7_scans_71 rfl ?_
        refine C_iload_n dX7_scans_72 rfl ?_
        refine C_aload_n dX7_scans_73 rfl ?_
        refine C_get (v := .ref 117) dX7_scans_74 f_X7_7 (fun h hc => ⟨_, hc.1, rfl⟩) ?_
        refine C_iload_n dX7_scans_77 rfl ?_
        refine C_iald (v := vi (mat (σ.2 2) i)) dX7_scans_78 (by omega) (by omega) (fun h hc => (hc.rd2 hw11 (by omega) (by omega)).imp (fun vs q => ⟨q.1, q.2.trans (congrArg (fun z => some (vi (mat z i))) (show (mfl σ 13 i).2 2 = σ.2 2 by simp [mfl, mar, upF]))⟩)) ?_
        have e_78 := hw.a2 i
        refine D_callV (As := [vi _, vi _]) (d' := 2) (t_mnext hw11 (Nat.le_refl _) (by omega) (by omega) (i := i) (by simpa [nInv, mfl, upF] using hn (by omega)) (by omega)) dX7_scans_79 v_X7_183 (fun h hc => ⟨_, hc.1⟩) rfl (Nat.le_of_ble_eq_true rfl) (by omega) (Nat.le_of_ble_eq_true rfl) ?_
        simp only [Option.toList, List.nil_append, List.cons_append]
        have hw12 : wfm (c_mnext (mfl σ 13 i) a (mat (σ.2 2) i)).2 := w_mnext hw11 (by omega) (by omega) (i := i) (by simpa [nInv, mfl, upF] using hn (by omega)) (by omega)
        have r_79 := r_mnext (a := a) (c := (mat (σ.2 2) i)) hw11 (by omega) (by omega) (i := i) (by simpa [nInv, mfl, upF] using hn (by omega)) (by omega)
        refine C_istore_n dX7_scans_82 (by decide) rfl ?_
        simp only [List.set_cons_zero, List.set_cons_succ, jfin0, jfin1, jfin2, jfin3]
        refine C_iinc dX7_scans_83 rfl (by decide) rfl ?_
        simp only [List.set_cons_zero, List.set_cons_succ]
        refine C_goto (tgt := 54) dX7_scans_86 (by decide) ?_
        rw [c_mscansL, if_neg (by omega), if_neg (by omega)]
        refine CJ.mono (ls' := [some (.ref 116), some (vi (i + 1)), some (vi ((c_mnext (mfl σ 13 i) a (mat (σ.2 2) i)).1))]) (lsub_ok (by repeat (first | exact trivial | refine ⟨rfl, ?_⟩))) (fun _ _ q => q) ?_
        exact ih hw12 (by omega) (by omega) (by first | (exact fun h => n_mnext (i := i) (by assumption) (by omega) (by simpa [nInv, mfl, upF] using hn (by omega)) (by omega) h) | (exact (fun _ => by simp [nInv, mfl, mar, upF]; omega))) (by omega)
theorem t_mscans {l : Launch} {G : jG} {d : Nat} {σ : mS}  (hw : wfm σ) (hd : 3 ≤ d)  : CJ jMod mown l G (Yx mX7_scans) d 0 0 0 [some (.ref 116), none, none] [] σ (det (some (vi (bz (c_mscans σ ).1))) (c_mscans σ ).2) := by
  refine C_aload_n dX7_scans_0 rfl ?_
  refine D_callV (As := []) (d' := 2) (t_mmarks hw (Nat.le_refl _) ) dX7_scans_1 v_X7_179 (fun h hc => ⟨_, hc.1⟩) rfl (Nat.le_of_ble_eq_true rfl) (by omega) (Nat.le_of_ble_eq_true rfl) ?_
  simp only [Option.toList, List.nil_append, List.cons_append]
  have hw1 : wfm (c_mmarks σ ).2 := w_mmarks hw 
  have r_1 := r_mmarks  hw 
  refine C_istore_n dX7_scans_4 (by decide) rfl ?_
  simp only [List.set_cons_zero, List.set_cons_succ, jfin0, jfin1, jfin2, jfin3]
  refine C_iload_n dX7_scans_5 rfl ?_
  refine C_if_ge (tgt := 11) dX7_scans_6 (by decide) (by omega) (fun c_6 => ?_) (fun c_6 => ?_)
  · refine C_aload_n dX7_scans_11 rfl ?_
    refine C_iconst dX7_scans_12 ?_
    refine C_put (σ' := (mfl (c_mmarks σ ).2 14 0)) dX7_scans_13 f_X7_169 jfit_i mown_0 (fun h hc => hc.pf14) ?_
    have hw3 : wfm (mfl (c_mmarks σ ).2 14 0) := wfm_f (k := 14) hw1 (show (0 : Int) ≤ 0 ∧ 0 ≤ 40 by omega)
    refine C_aload_n dX7_scans_16 rfl ?_
    refine C_iconst dX7_scans_17 ?_
    refine C_put (σ' := (mfl (mfl (c_mmarks σ ).2 14 0) 17 0)) dX7_scans_18 f_X7_163 jfit_i mown_0 (fun h hc => hc.pf17) ?_
    have hw4 : wfm (mfl (mfl (c_mmarks σ ).2 14 0) 17 0) := wfm_f (k := 17) hw3 (show (0 : Int) ≤ 0 ∧ 0 ≤ 121 by omega)
    refine C_aload_n dX7_scans_21 rfl ?_
    refine C_iconst dX7_scans_22 ?_
    refine C_put (σ' := (mfl (mfl (mfl (c_mmarks σ ).2 14 0) 17 0) 19 0)) dX7_scans_23 f_X7_157 jfit_i mown_0 (fun h hc => hc.pf19) ?_
    have hw5 : wfm (mfl (mfl (mfl (c_mmarks σ ).2 14 0) 17 0) 19 0) := wfm_f (k := 19) hw4 (show (0 : Int) ≤ 0 ∧ 0 ≤ 121 by omega)
    refine C_aload_n dX7_scans_26 rfl ?_
    refine C_iconst dX7_scans_27 ?_
    refine C_put (σ' := (mfl (mfl (mfl (mfl (c_mmarks σ ).2 14 0) 17 0) 19 0) 21 0)) dX7_scans_28 f_X7_160 jfit_i mown_0 (fun h hc => hc.pf21) ?_
    have hw6 : wfm (mfl (mfl (mfl (mfl (c_mmarks σ ).2 14 0) 17 0) 19 0) 21 0) := wfm_f (k := 21) hw5 (show (0 : Int) ≤ 0 ∧ 0 ≤ 400 by omega)
    refine C_aload_n dX7_scans_31 rfl ?_
    refine C_get (v := .ref 125) dX7_scans_32 f_X7_39 (fun h hc => ⟨_, hc.1, rfl⟩) ?_
    refine C_iconst dX7_scans_35 ?_
    refine C_iconst dX7_scans_36 ?_
    refine C_iast (σ' := (mar (mfl (mfl (mfl (mfl (c_mmarks σ ).2 14 0) 17 0) 19 0) 21 0) 16 0 0)) dX7_scans_37 (by omega) (by omega) mo16 (fun h hc => hc.st16 hw6 (by omega) (by omega)) ?_
    have hw7 : wfm (mar (mfl (mfl (mfl (mfl (c_mmarks σ ).2 14 0) 17 0) 19 0) 21 0) 16 0 0) := wfm_a (k := 16) hw6 (show (0 : Int) ≤ 0 ∧ 0 ≤ 121 by omega)
    refine C_aload_n dX7_scans_38 rfl ?_
    refine C_get (v := .ref 126) dX7_scans_39 f_X7_42 (fun h hc => ⟨_, hc.1, rfl⟩) ?_
    refine C_iconst dX7_scans_42 ?_
    refine C_iconst dX7_scans_43 ?_
    refine C_iast (σ' := (mar (mar (mfl (mfl (mfl (mfl (c_mmarks σ ).2 14 0) 17 0) 19 0) 21 0) 16 0 0) 18 0 0)) dX7_scans_44 (by omega) (by omega) mo18 (fun h hc => hc.st18 hw7 (by omega) (by omega)) ?_
    have hw8 : wfm (mar (mar (mfl (mfl (mfl (mfl (c_mmarks σ ).2 14 0) 17 0) 19 0) 21 0) 16 0 0) 18 0 0) := wfm_a (k := 18) hw7 (show (0 : Int) ≤ 0 ∧ 0 ≤ 121 by omega)
    refine C_aload_n dX7_scans_45 rfl ?_
    refine C_get (v := .ref 127) dX7_scans_46 f_X7_45 (fun h hc => ⟨_, hc.1, rfl⟩) ?_
    refine C_iconst dX7_scans_49 ?_
    refine C_iconst dX7_scans_50 ?_
    refine C_iast (σ' := (mar (mar (mar (mfl (mfl (mfl (mfl (c_mmarks σ ).2 14 0) 17 0) 19 0) 21 0) 16 0 0) 18 0 0) 20 0 0)) dX7_scans_51 (by omega) (by omega) mo20 (fun h hc => hc.st20 hw8 (by omega) (by omega)) ?_
    have hw9 : wfm (mar (mar (mar (mfl (mfl (mfl (mfl (c_mmarks σ ).2 14 0) 17 0) 19 0) 21 0) 16 0 0) 18 0 0) 20 0 0) := wfm_a (k := 20) hw8 (show (0 : Int) ≤ 0 ∧ 0 ≤ 400 by omega)
    refine C_iconst dX7_scans_52 ?_
    refine C_istore_n dX7_scans_53 (by decide) rfl ?_
    simp only [List.set_cons_zero, List.set_cons_succ, jfin0, jfin1, jfin2, jfin3]
    rw [c_mscans, if_pos (by omega)]
    refine CJ.mono (ls' := [some (.ref 116), some (vi ((c_mmarks σ ).1)), some (vi 0)]) (lsub_ok (by repeat (first | exact trivial | refine ⟨rfl, ?_⟩))) (fun _ _ q => q) ?_
    exact t_mscansL hw9 hd  (402) (by omega) (by omega) (by first | (exact fun h => n_mnext (i := i) (by assumption) (by omega) (by simpa [nInv, mfl, upF] using hn (by omega)) (by omega) h) | (exact (fun _ => by simp [nInv, mfl, mar, upF]; omega))) (by omega)
  · refine C_iconst dX7_scans_9 ?_
    refine C_zret dX7_scans_10 rfl (by first | exact Or.inl rfl | exact Or.inr rfl | exact bz_01 _) ?_
    unfold det; rw [c_mscans, if_neg (by omega)]; exact ⟨rfl, rfl⟩
theorem w_mscansL {σ : mS}  {i a : Int} (hw : wfm σ)  (fu : Nat) (hi : 0 ≤ i ∧ i ≤ 401) (ha : -1 ≤ a ∧ a ≤ 5) (hn : 0 ≤ a → nInv σ a i) : wfm (c_mscansL  fu i a σ).2 := by
  induction fu generalizing σ i a with
  | zero => exact hw
  | succ fu ih =>
    unfold c_mscansL
    split
    · split
      · split
        · split
          · have g_56 := hw.f1
            have g_97 := hw.f1
            have hw3 : wfm (mfl σ 13 (σ.1 1)) := wfm_f (k := 13) hw (show (-1 : Int) ≤ (σ.1 1) ∧ (σ.1 1) ≤ 400 by omega)
            have g_108 := hw.f14
            exact hw3
          · have g_56 := hw.f1
            have g_97 := hw.f1
            have hw3 : wfm (mfl σ 13 (σ.1 1)) := wfm_f (k := 13) hw (show (-1 : Int) ≤ (σ.1 1) ∧ (σ.1 1) ≤ 400 by omega)
            have g_108 := hw.f14
            exact hw3
        · have g_56 := hw.f1
          have g_97 := hw.f1
          have hw3 : wfm (mfl σ 13 (σ.1 1)) := wfm_f (k := 13) hw (show (-1 : Int) ≤ (σ.1 1) ∧ (σ.1 1) ≤ 400 by omega)
          exact hw3
      · have g_56 := hw.f1
        exact hw
    · split
      · split
        · split
          · split
            · have g_56 := hw.f1
              have g_97 := hw.f1
              have hw8 : wfm (mfl σ 13 (σ.1 1)) := wfm_f (k := 13) hw (show (-1 : Int) ≤ (σ.1 1) ∧ (σ.1 1) ≤ 400 by omega)
              have g_108 := hw.f14
              exact hw8
            · have g_56 := hw.f1
              have g_97 := hw.f1
              have hw8 : wfm (mfl σ 13 (σ.1 1)) := wfm_f (k := 13) hw (show (-1 : Int) ≤ (σ.1 1) ∧ (σ.1 1) ≤ 400 by omega)
              have g_108 := hw.f14
              exact hw8
          · have g_56 := hw.f1
            have g_97 := hw.f1
            have hw8 : wfm (mfl σ 13 (σ.1 1)) := wfm_f (k := 13) hw (show (-1 : Int) ≤ (σ.1 1) ∧ (σ.1 1) ≤ 400 by omega)
            exact hw8
        · have g_56 := hw.f1
          exact hw
      · have g_56 := hw.f1
        have hw11 : wfm (mfl σ 13 i) := wfm_f (k := 13) hw (show (-1 : Int) ≤ i ∧ i ≤ 400 by omega)
        have e_78 := hw.a2 i
        have hw12 : wfm (c_mnext (mfl σ 13 i) a (mat (σ.2 2) i)).2 := w_mnext hw11 (by omega) (by omega) (i := i) (by simpa [nInv, mfl, upF] using hn (by omega)) (by omega)
        have r_79 := r_mnext (a := a) (c := (mat (σ.2 2) i)) hw11 (by omega) (by omega) (i := i) (by simpa [nInv, mfl, upF] using hn (by omega)) (by omega)
        exact ih hw12 (by omega) (by omega) (by first | (exact fun h => n_mnext (i := i) (by assumption) (by omega) (by simpa [nInv, mfl, upF] using hn (by omega)) (by omega) h) | (exact (fun _ => by simp [nInv, mfl, mar, upF]; omega)))
theorem w_mscans {σ : mS}  (hw : wfm σ)  : wfm (c_mscans σ ).2 := by
  unfold c_mscans
  split
  · have hw1 : wfm (c_mmarks σ ).2 := w_mmarks hw 
    have r_1 := r_mmarks  hw 
    have hw3 : wfm (mfl (c_mmarks σ ).2 14 0) := wfm_f (k := 14) hw1 (show (0 : Int) ≤ 0 ∧ 0 ≤ 40 by omega)
    have hw4 : wfm (mfl (mfl (c_mmarks σ ).2 14 0) 17 0) := wfm_f (k := 17) hw3 (show (0 : Int) ≤ 0 ∧ 0 ≤ 121 by omega)
    have hw5 : wfm (mfl (mfl (mfl (c_mmarks σ ).2 14 0) 17 0) 19 0) := wfm_f (k := 19) hw4 (show (0 : Int) ≤ 0 ∧ 0 ≤ 121 by omega)
    have hw6 : wfm (mfl (mfl (mfl (mfl (c_mmarks σ ).2 14 0) 17 0) 19 0) 21 0) := wfm_f (k := 21) hw5 (show (0 : Int) ≤ 0 ∧ 0 ≤ 400 by omega)
    have hw7 : wfm (mar (mfl (mfl (mfl (mfl (c_mmarks σ ).2 14 0) 17 0) 19 0) 21 0) 16 0 0) := wfm_a (k := 16) hw6 (show (0 : Int) ≤ 0 ∧ 0 ≤ 121 by omega)
    have hw8 : wfm (mar (mar (mfl (mfl (mfl (mfl (c_mmarks σ ).2 14 0) 17 0) 19 0) 21 0) 16 0 0) 18 0 0) := wfm_a (k := 18) hw7 (show (0 : Int) ≤ 0 ∧ 0 ≤ 121 by omega)
    have hw9 : wfm (mar (mar (mar (mfl (mfl (mfl (mfl (c_mmarks σ ).2 14 0) 17 0) 19 0) 21 0) 16 0 0) 18 0 0) 20 0 0) := wfm_a (k := 20) hw8 (show (0 : Int) ≤ 0 ∧ 0 ≤ 400 by omega)
    exact w_mscansL hw9  (402) (by omega) (by omega) (by first | (exact fun h => n_mnext (i := i) (by assumption) (by omega) (by simpa [nInv, mfl, upF] using hn (by omega)) (by omega) h) | (exact (fun _ => by simp [nInv, mfl, mar, upF]; omega)))
  · have hw1 : wfm (c_mmarks σ ).2 := w_mmarks hw 
    have r_1 := r_mmarks  hw 
    exact hw1
