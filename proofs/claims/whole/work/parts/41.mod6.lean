/-- what take needs of the tags -/
def tOK (tags : List Int) : Nat → Int → Int → Int → Int → Prop
  | 0, _, _, _, _ => True
  | fu + 1, n, k, g, m => k < n - 1 → (if mat tags k = 5590599 then g < 20 ∧ tOK tags fu n (k + 1) (g + 1) m else if mat tags k = 5590597 then 1 ≤ g ∧ tOK tags fu n (k + 1) g m else if mat tags k = 5590600 then m < 20 ∧ tOK tags fu n (k + 1) g (m + 1) else if mat tags k = 5590612 then 1 ≤ m ∧ tOK tags fu n (k + 1) g m else tOK tags fu n (k + 1) g m)
theorem tOK_congr {a b : List Int} {n : Int} : ∀ {fu : Nat} {k g m : Int}, 1 ≤ k → (∀ j, 1 ≤ j → j < n → mat a j = mat b j) → tOK b fu n k g m → tOK a fu n k g m
  | 0, _, _, _, _, _, _ => trivial
  | fu + 1, k, g, m, hk, he, h => fun hl => by
    have h2 := h hl
    rw [he k hk (by omega)]
    split
    · rename_i c; rw [if_pos c] at h2; exact ⟨h2.1, tOK_congr (by omega) he h2.2⟩
    · rename_i c1; rw [if_neg c1] at h2
      split
      · rename_i c; rw [if_pos c] at h2; exact ⟨h2.1, tOK_congr (by omega) he h2.2⟩
      · rename_i c2; rw [if_neg c2] at h2
        split
        · rename_i c; rw [if_pos c] at h2; exact ⟨h2.1, tOK_congr (by omega) he h2.2⟩
        · rename_i c3; rw [if_neg c3] at h2
          split
          · rename_i c; rw [if_pos c] at h2; exact ⟨h2.1, tOK_congr (by omega) he h2.2⟩
          · rename_i c4; rw [if_neg c4] at h2
            exact tOK_congr (by omega) he h2
theorem mat_cp {σ : mS} {k : Int} (hl : (σ.2 25).length = 41) (hk : 0 ≤ k ∧ k ≤ 40) (hcp : ∀ j, 0 ≤ j → j < k → mat (σ.2 25) j = mat (σ.2 15) j) : ∀ j, 0 ≤ j → j < k + 1 → mat ((σ.2 25).set k.toNat (mat (σ.2 15) k)) j = mat (σ.2 15) j := fun j h0 h1 => by
  by_cases e : j = k
  · subst e; exact mat_set (by omega)
  · rw [mat_set_ne (by omega)]; exact hcp j h0 (by omega)
theorem wfm.l25 {σ : mS} (hw : wfm σ) : (σ.2 25).length = 41 := hw.len (k := 25) (by decide)
def c_mtakeL5  : Nat → Int → mS → mS
  | 0, _, σ => σ
  | fu + 1, k, σ => (if ((σ.1 24) - 1) ≤ k then σ else (if (mat (σ.2 25) k) = 5590599 then (c_mtakeL5  fu (k + 1) (mfl (mar σ 40 (σ.1 39) k) 39 ((σ.1 39) + 1))) else (if (mat (σ.2 25) k) = 5590597 then (c_mtakeL5  fu (k + 1) (mar σ 41 ((σ.1 39) - 1) k)) else (if (mat (σ.2 25) k) = 5590600 then (c_mtakeL5  fu (k + 1) (mfl (mar (mar σ 34 (σ.1 33) k) 36 (σ.1 33) ((σ.1 39) - 1)) 33 ((σ.1 33) + 1))) else (if (mat (σ.2 25) k) = 5590612 then (c_mtakeL5  fu (k + 1) (mar σ 35 ((σ.1 33) - 1) k)) else (c_mtakeL5  fu (k + 1) σ))))))
def c_mtakeL4  : Nat → Int → mS → mS
  | 0, _, σ => σ
  | fu + 1, k, σ => (if (σ.1 21) ≤ k then (c_mtakeL5  (41) 1 (mfl (mfl σ 33 0) 39 0)) else (c_mtakeL4  fu (k + 1) (mar σ 31 k (mat (σ.2 22) k))))
def c_mtakeL3  : Nat → Int → mS → mS
  | 0, _, σ => σ
  | fu + 1, k, σ => (if (σ.1 29) < k then (c_mtakeL4  (401) 0 σ) else (c_mtakeL3  fu (k + 1) (mar σ 30 k (mat (σ.2 20) k))))
def c_mtakeL2  : Nat → Int → mS → mS
  | 0, _, σ => σ
  | fu + 1, k, σ => (if (σ.1 27) < k then (c_mtakeL3  (123) 0 σ) else (c_mtakeL2  fu (k + 1) (mar σ 28 k (mat (σ.2 18) k))))
def c_mtakeL1  : Nat → Int → mS → mS
  | 0, _, σ => σ
  | fu + 1, k, σ => (if (σ.1 24) < k then (c_mtakeL2  (123) 0 σ) else (c_mtakeL1  fu (k + 1) (mar (mar σ 25 k (mat (σ.2 15) k)) 26 k (mat (σ.2 16) k))))
def c_mtake (σ : mS)  : mS := (c_mtakeL1  (42) 0 (mfl (mfl (mfl σ 24 (σ.1 14)) 27 (σ.1 17)) 29 (σ.1 19)))
theorem t_mtakeL5 {l : Launch} {G : jG} {d : Nat} {σ : mS}  {k : Int} (hw : wfm σ) (hd : 0 ≤ d)  (fu : Nat) (hk : 1 ≤ k ∧ k ≤ 40) (ht : tOK (σ.2 25) fu (σ.1 24) k (σ.1 39) (σ.1 33)) (hm : 40 - k < (fu : Int)) : CJ jMod mown l G (Yx mX7_take) d 0 0 160 [some (.ref 116), some (vi k)] [] σ (det none (c_mtakeL5  fu k σ)) := by
  induction fu generalizing σ k with
  | zero => exact absurd hm (by omega)
  | succ fu ih =>
    refine C_iload_n dX7_take_160 rfl ?_
    refine C_aload_n dX7_take_161 rfl ?_
    refine C_get (v := vi (σ.1 24)) dX7_take_162 f_X7_187 (fun h hc => ⟨_, hc.1, rfl⟩) ?_
    have g_162 := hw.f24
    refine C_iconst dX7_take_165 ?_
    refine C_isub dX7_take_166 ?_
    refine C_icmp_ge (tgt := 308) dX7_take_167 (by decide) (by omega) (by omega) (fun c_167 => ?_) (fun c_167 => ?_)
    · refine C_vret dX7_take_308 rfl ⟨rfl, ?_⟩
      rw [c_mtakeL5, if_pos (by omega)]
    · refine C_aload_n dX7_take_170 rfl ?_
      refine C_get (v := .ref 129) dX7_take_171 f_X7_51 (fun h hc => ⟨_, hc.1, rfl⟩) ?_
      refine C_iload_n dX7_take_174 rfl ?_
      refine C_iald (v := vi (mat (σ.2 25) k)) dX7_take_175 (by omega) (by omega) (fun h hc => hc.rd25 hw (by omega) (by omega)) ?_
      have e_175 := hw.a25 k
      refine C_ldc (5590599) dX7_take_176 k_X7_114 ?_
      refine C_icmp_ne (tgt := 204) dX7_take_178 (by decide) (by omega) (by omega) (fun c_178 => ?_) (fun c_178 => ?_)
      · refine C_aload_n dX7_take_204 rfl ?_
        refine C_get (v := .ref 129) dX7_take_205 f_X7_51 (fun h hc => ⟨_, hc.1, rfl⟩) ?_
        refine C_iload_n dX7_take_208 rfl ?_
        refine C_iald (v := vi (mat (σ.2 25) k)) dX7_take_209 (by omega) (by omega) (fun h hc => hc.rd25 hw (by omega) (by omega)) ?_
        have e_209 := hw.a25 k
        refine C_ldc (5590597) dX7_take_210 k_X7_115 ?_
        refine C_icmp_ne (tgt := 230) dX7_take_212 (by decide) (by omega) (by omega) (fun c_212 => ?_) (fun c_212 => ?_)
        · refine C_aload_n dX7_take_230 rfl ?_
          refine C_get (v := .ref 129) dX7_take_231 f_X7_51 (fun h hc => ⟨_, hc.1, rfl⟩) ?_
          refine C_iload_n dX7_take_234 rfl ?_
          refine C_iald (v := vi (mat (σ.2 25) k)) dX7_take_235 (by omega) (by omega) (fun h hc => hc.rd25 hw (by omega) (by omega)) ?_
          have e_235 := hw.a25 k
          refine C_ldc (5590600) dX7_take_236 k_X7_116 ?_
          refine C_icmp_ne (tgt := 279) dX7_take_238 (by decide) (by omega) (by omega) (fun c_238 => ?_) (fun c_238 => ?_)
          · refine C_aload_n dX7_take_279 rfl ?_
            refine C_get (v := .ref 129) dX7_take_280 f_X7_51 (fun h hc => ⟨_, hc.1, rfl⟩) ?_
            refine C_iload_n dX7_take_283 rfl ?_
            refine C_iald (v := vi (mat (σ.2 25) k)) dX7_take_284 (by omega) (by omega) (fun h hc => hc.rd25 hw (by omega) (by omega)) ?_
            have e_284 := hw.a25 k
            refine C_ldc (5590612) dX7_take_285 k_X7_117 ?_
            refine C_icmp_ne (tgt := 302) dX7_take_287 (by decide) (by omega) (by omega) (fun c_287 => ?_) (fun c_287 => ?_)
            · refine C_iinc dX7_take_302 rfl (by decide) rfl ?_
              simp only [List.set_cons_zero, List.set_cons_succ]
              refine C_goto (tgt := 160) dX7_take_305 (by decide) ?_
              rw [c_mtakeL5, if_neg (by omega), if_neg (by omega), if_neg (by omega), if_neg (by omega), if_neg (by omega)]
              refine CJ.mono (ls' := [some (.ref 116), some (vi (k + 1))]) (lsub_ok (by repeat (first | exact trivial | refine ⟨rfl, ?_⟩))) (fun _ _ q => q) ?_
              exact ih hw (by omega) (by first | exact hx.2 | exact ht | (have hx := ht (by omega); rw [if_neg (by assumption), if_neg (by assumption), if_neg (by assumption), if_neg (by assumption)] at hx; exact hx)) (by omega)
            · have hx := ht (by omega)
              rw [if_neg (by assumption), if_neg (by assumption), if_neg (by assumption), if_pos (by assumption)] at hx
              refine C_aload_n dX7_take_290 rfl ?_
              refine C_get (v := .ref 135) dX7_take_291 f_X7_69 (fun h hc => ⟨_, hc.1, rfl⟩) ?_
              refine C_aload_n dX7_take_294 rfl ?_
              refine C_get (v := vi (σ.1 33)) dX7_take_295 f_X7_196 (fun h hc => ⟨_, hc.1, rfl⟩) ?_
              have g_295 := hw.f33
              refine C_iconst dX7_take_298 ?_
              refine C_isub dX7_take_299 ?_
              refine C_iload_n dX7_take_300 rfl ?_
              refine C_iast (σ' := (mar σ 35 ((σ.1 33) - 1) k)) dX7_take_301 (by omega) (by omega) mo35 (fun h hc => hc.st35 hw (by omega) (by omega)) ?_
              have hw6 : wfm (mar σ 35 ((σ.1 33) - 1) k) := wfm_a (k := 35) hw (show (0 : Int) ≤ k ∧ k ≤ 40 by omega)
              refine C_iinc dX7_take_302 rfl (by decide) rfl ?_
              simp only [List.set_cons_zero, List.set_cons_succ]
              refine C_goto (tgt := 160) dX7_take_305 (by decide) ?_
              rw [c_mtakeL5, if_neg (by omega), if_neg (by omega), if_neg (by omega), if_neg (by omega), if_pos (by omega)]
              refine CJ.mono (ls' := [some (.ref 116), some (vi (k + 1))]) (lsub_ok (by repeat (first | exact trivial | refine ⟨rfl, ?_⟩))) (fun _ _ q => q) ?_
              exact ih hw6 (by omega) (by first | exact hx.2 | exact ht | (have hx := ht (by omega); rw [if_neg (by assumption), if_neg (by assumption), if_neg (by assumption), if_neg (by assumption)] at hx; exact hx)) (by omega)
          · have hx := ht (by omega)
            rw [if_neg (by assumption), if_neg (by assumption), if_pos (by assumption)] at hx
            refine C_aload_n dX7_take_241 rfl ?_
            refine C_get (v := .ref 134) dX7_take_242 f_X7_66 (fun h hc => ⟨_, hc.1, rfl⟩) ?_
            refine C_aload_n dX7_take_245 rfl ?_
            refine C_get (v := vi (σ.1 33)) dX7_take_246 f_X7_196 (fun h hc => ⟨_, hc.1, rfl⟩) ?_
            have g_246 := hw.f33
            refine C_iload_n dX7_take_249 rfl ?_
            refine C_iast (σ' := (mar σ 34 (σ.1 33) k)) dX7_take_250 (by omega) (by omega) mo34 (fun h hc => hc.st34 hw (by omega) (by omega)) ?_
            have hw7 : wfm (mar σ 34 (σ.1 33) k) := wfm_a (k := 34) hw (show (0 : Int) ≤ k ∧ k ≤ 40 by omega)
            refine C_aload_n dX7_take_251 rfl ?_
            refine C_get (v := .ref 136) dX7_take_252 f_X7_72 (fun h hc => ⟨_, hc.1, rfl⟩) ?_
            refine C_aload_n dX7_take_255 rfl ?_
            refine C_get (v := vi (σ.1 33)) dX7_take_256 f_X7_196 (fun h hc => ⟨_, hc.1, congrArg (fun z => some (vi z)) (show ((mar σ 34 (σ.1 33) k).1 33) = (σ.1 33) by simp [mfl, mar, upF])⟩) ?_
            have g_256 := hw.f33
            refine C_aload_n dX7_take_259 rfl ?_
            refine C_get (v := vi (σ.1 39)) dX7_take_260 f_X7_199 (fun h hc => ⟨_, hc.1, congrArg (fun z => some (vi z)) (show ((mar σ 34 (σ.1 33) k).1 39) = (σ.1 39) by simp [mfl, mar, upF])⟩) ?_
            have g_260 := hw.f39
            refine C_iconst dX7_take_263 ?_
            refine C_isub dX7_take_264 ?_
            refine C_iast (σ' := (mar (mar σ 34 (σ.1 33) k) 36 (σ.1 33) ((σ.1 39) - 1))) dX7_take_265 (by omega) (by omega) mo36 (fun h hc => hc.st36 hw7 (by omega) (by omega)) ?_
            have hw8 : wfm (mar (mar σ 34 (σ.1 33) k) 36 (σ.1 33) ((σ.1 39) - 1)) := wfm_a (k := 36) hw7 (show (-1 : Int) ≤ ((σ.1 39) - 1) ∧ ((σ.1 39) - 1) ≤ 19 by omega)
            refine C_aload_n dX7_take_266 rfl ?_
            refine C_dup dX7_take_267 rfl ?_
            refine C_get (v := vi (σ.1 33)) dX7_take_268 f_X7_196 (fun h hc => ⟨_, hc.1, congrArg (fun z => some (vi z)) (show ((mar (mar σ 34 (σ.1 33) k) 36 (σ.1 33) ((σ.1 39) - 1)).1 33) = (σ.1 33) by simp [mfl, mar, upF])⟩) ?_
            have g_268 := hw.f33
            refine C_iconst dX7_take_271 ?_
            refine C_iadd dX7_take_272 ?_
            refine C_put (σ' := (mfl (mar (mar σ 34 (σ.1 33) k) 36 (σ.1 33) ((σ.1 39) - 1)) 33 ((σ.1 33) + 1))) dX7_take_273 f_X7_196 jfit_i mown_0 (fun h hc => hc.pf33) ?_
            have hw9 : wfm (mfl (mar (mar σ 34 (σ.1 33) k) 36 (σ.1 33) ((σ.1 39) - 1)) 33 ((σ.1 33) + 1)) := wfm_f (k := 33) hw8 (show (0 : Int) ≤ ((σ.1 33) + 1) ∧ ((σ.1 33) + 1) ≤ 20 by omega)
            refine C_goto (tgt := 302) dX7_take_276 (by decide) ?_
            refine C_iinc dX7_take_302 rfl (by decide) rfl ?_
            simp only [List.set_cons_zero, List.set_cons_succ]
            refine C_goto (tgt := 160) dX7_take_305 (by decide) ?_
            rw [c_mtakeL5, if_neg (by omega), if_neg (by omega), if_neg (by omega), if_pos (by omega)]
            refine CJ.mono (ls' := [some (.ref 116), some (vi (k + 1))]) (lsub_ok (by repeat (first | exact trivial | refine ⟨rfl, ?_⟩))) (fun _ _ q => q) ?_
            exact ih hw9 (by omega) (by first | exact hx.2 | exact ht | (have hx := ht (by omega); rw [if_neg (by assumption), if_neg (by assumption), if_neg (by assumption), if_neg (by assumption)] at hx; exact hx)) (by omega)
        · have hx := ht (by omega)
          rw [if_neg (by assumption), if_pos (by assumption)] at hx
          refine C_aload_n dX7_take_215 rfl ?_
          refine C_get (v := .ref 140) dX7_take_216 f_X7_84 (fun h hc => ⟨_, hc.1, rfl⟩) ?_
          refine C_aload_n dX7_take_219 rfl ?_
          refine C_get (v := vi (σ.1 39)) dX7_take_220 f_X7_199 (fun h hc => ⟨_, hc.1, rfl⟩) ?_
          have g_220 := hw.f39
          refine C_iconst dX7_take_223 ?_
          refine C_isub dX7_take_224 ?_
          refine C_iload_n dX7_take_225 rfl ?_
          refine C_iast (σ' := (mar σ 41 ((σ.1 39) - 1) k)) dX7_take_226 (by omega) (by omega) mo41 (fun h hc => hc.st41 hw (by omega) (by omega)) ?_
          have hw10 : wfm (mar σ 41 ((σ.1 39) - 1) k) := wfm_a (k := 41) hw (show (0 : Int) ≤ k ∧ k ≤ 40 by omega)
          refine C_goto (tgt := 302) dX7_take_227 (by decide) ?_
          refine C_iinc dX7_take_302 rfl (by decide) rfl ?_
          simp only [List.set_cons_zero, List.set_cons_succ]
          refine C_goto (tgt := 160) dX7_take_305 (by decide) ?_
          rw [c_mtakeL5, if_neg (by omega), if_neg (by omega), if_pos (by omega)]
          refine CJ.mono (ls' := [some (.ref 116), some (vi (k + 1))]) (lsub_ok (by repeat (first | exact trivial | refine ⟨rfl, ?_⟩))) (fun _ _ q => q) ?_
          exact ih hw10 (by omega) (by first | exact hx.2 | exact ht | (have hx := ht (by omega); rw [if_neg (by assumption), if_neg (by assumption), if_neg (by assumption), if_neg (by assumption)] at hx; exact hx)) (by omega)
      · have hx := ht (by omega)
        rw [if_pos (by assumption)] at hx
        refine C_aload_n dX7_take_181 rfl ?_
        refine C_get (v := .ref 139) dX7_take_182 f_X7_81 (fun h hc => ⟨_, hc.1, rfl⟩) ?_
        refine C_aload_n dX7_take_185 rfl ?_
        refine C_get (v := vi (σ.1 39)) dX7_take_186 f_X7_199 (fun h hc => ⟨_, hc.1, rfl⟩) ?_
        have g_186 := hw.f39
        refine C_iload_n dX7_take_189 rfl ?_
        refine C_iast (σ' := (mar σ 40 (σ.1 39) k)) dX7_take_190 (by omega) (by omega) mo40 (fun h hc => hc.st40 hw (by omega) (by omega)) ?_
        have hw11 : wfm (mar σ 40 (σ.1 39) k) := wfm_a (k := 40) hw (show (0 : Int) ≤ k ∧ k ≤ 40 by omega)
        refine C_aload_n dX7_take_191 rfl ?_
        refine C_dup dX7_take_192 rfl ?_
        refine C_get (v := vi (σ.1 39)) dX7_take_193 f_X7_199 (fun h hc => ⟨_, hc.1, congrArg (fun z => some (vi z)) (show ((mar σ 40 (σ.1 39) k).1 39) = (σ.1 39) by simp [mfl, mar, upF])⟩) ?_
        have g_193 := hw.f39
        refine C_iconst dX7_take_196 ?_
        refine C_iadd dX7_take_197 ?_
        refine C_put (σ' := (mfl (mar σ 40 (σ.1 39) k) 39 ((σ.1 39) + 1))) dX7_take_198 f_X7_199 jfit_i mown_0 (fun h hc => hc.pf39) ?_
        have hw12 : wfm (mfl (mar σ 40 (σ.1 39) k) 39 ((σ.1 39) + 1)) := wfm_f (k := 39) hw11 (show (0 : Int) ≤ ((σ.1 39) + 1) ∧ ((σ.1 39) + 1) ≤ 20 by omega)
        refine C_goto (tgt := 302) dX7_take_201 (by decide) ?_
        refine C_iinc dX7_take_302 rfl (by decide) rfl ?_
        simp only [List.set_cons_zero, List.set_cons_succ]
        refine C_goto (tgt := 160) dX7_take_305 (by decide) ?_
        rw [c_mtakeL5, if_neg (by omega), if_pos (by omega)]
        refine CJ.mono (ls' := [some (.ref 116), some (vi (k + 1))]) (lsub_ok (by repeat (first | exact trivial | refine ⟨rfl, ?_⟩))) (fun _ _ q => q) ?_
        exact ih hw12 (by omega) (by first | exact hx.2 | exact ht | (have hx := ht (by omega); rw [if_neg (by assumption), if_neg (by assumption), if_neg (by assumption), if_neg (by assumption)] at hx; exact hx)) (by omega)
theorem t_mtakeL4 {l : Launch} {G : jG} {d : Nat} {σ : mS}  {k : Int} (hw : wfm σ) (hd : 0 ≤ d)  (fu : Nat) (hk : 0 ≤ k ∧ k ≤ 400) (ht : tOK (σ.2 25) 41 (σ.1 24) 1 0 0) (hm : 400 - k < (fu : Int)) : CJ jMod mown l G (Yx mX7_take) d 0 0 122 [some (.ref 116), some (vi k)] [] σ (det none (c_mtakeL4  fu k σ)) := by
  induction fu generalizing σ k with
  | zero => exact absurd hm (by omega)
  | succ fu ih =>
    refine C_iload_n dX7_take_122 rfl ?_
    refine C_aload_n dX7_take_123 rfl ?_
    refine C_get (v := vi (σ.1 21)) dX7_take_124 f_X7_160 (fun h hc => ⟨_, hc.1, rfl⟩) ?_
    have g_124 := hw.f21
    refine C_icmp_ge (tgt := 148) dX7_take_127 (by decide) (by omega) (by omega) (fun c_127 => ?_) (fun c_127 => ?_)
    · refine C_aload_n dX7_take_148 rfl ?_
      refine C_iconst dX7_take_149 ?_
      refine C_put (σ' := (mfl σ 33 0)) dX7_take_150 f_X7_196 jfit_i mown_0 (fun h hc => hc.pf33) ?_
      have hw2 : wfm (mfl σ 33 0) := wfm_f (k := 33) hw (show (0 : Int) ≤ 0 ∧ 0 ≤ 20 by omega)
      refine C_aload_n dX7_take_153 rfl ?_
      refine C_iconst dX7_take_154 ?_
      refine C_put (σ' := (mfl (mfl σ 33 0) 39 0)) dX7_take_155 f_X7_199 jfit_i mown_0 (fun h hc => hc.pf39) ?_
      have hw3 : wfm (mfl (mfl σ 33 0) 39 0) := wfm_f (k := 39) hw2 (show (0 : Int) ≤ 0 ∧ 0 ≤ 20 by omega)
      refine C_iconst dX7_take_158 ?_
      refine C_istore_n dX7_take_159 (by decide) rfl ?_
      simp only [List.set_cons_zero, List.set_cons_succ, jfin0, jfin1, jfin2, jfin3]
      rw [c_mtakeL4, if_pos (by omega)]
      refine CJ.mono (ls' := [some (.ref 116), some (vi 1)]) (lsub_ok (by repeat (first | exact trivial | refine ⟨rfl, ?_⟩))) (fun _ _ q => q) ?_
      exact t_mtakeL5 hw3 hd  (41) (by omega) (by first | exact hx.2 | exact ht | (have hx := ht (by omega); rw [if_neg (by assumption), if_neg (by assumption), if_neg (by assumption), if_neg (by assumption)] at hx; exact hx)) (by omega)
    · refine C_aload_n dX7_take_130 rfl ?_
      refine C_get (v := .ref 133) dX7_take_131 f_X7_63 (fun h hc => ⟨_, hc.1, rfl⟩) ?_
      refine C_iload_n dX7_take_134 rfl ?_
      refine C_aload_n dX7_take_135 rfl ?_
      refine C_get (v := .ref 128) dX7_take_136 f_X7_48 (fun h hc => ⟨_, hc.1, rfl⟩) ?_
      refine C_iload_n dX7_take_139 rfl ?_
      refine C_iald (v := vi (mat (σ.2 22) k)) dX7_take_140 (by omega) (by omega) (fun h hc => hc.rd22 hw (by omega) (by omega)) ?_
      have e_140 := hw.a22 k
      refine C_iast (σ' := (mar σ 31 k (mat (σ.2 22) k))) dX7_take_141 (by omega) (by omega) mo31 (fun h hc => hc.st31 hw (by omega) (by omega)) ?_
      have hw4 : wfm (mar σ 31 k (mat (σ.2 22) k)) := wfm_a (k := 31) hw (show (0 : Int) ≤ (mat (σ.2 22) k) ∧ (mat (σ.2 22) k) ≤ 126 by omega)
      refine C_iinc dX7_take_142 rfl (by decide) rfl ?_
      simp only [List.set_cons_zero, List.set_cons_succ]
      refine C_goto (tgt := 122) dX7_take_145 (by decide) ?_
      rw [c_mtakeL4, if_neg (by omega)]
      refine CJ.mono (ls' := [some (.ref 116), some (vi (k + 1))]) (lsub_ok (by repeat (first | exact trivial | refine ⟨rfl, ?_⟩))) (fun _ _ q => q) ?_
      exact ih hw4 (by omega) (by exact ht) (by omega)
theorem t_mtakeL3 {l : Launch} {G : jG} {d : Nat} {σ : mS}  {k : Int} (hw : wfm σ) (hd : 0 ≤ d)  (fu : Nat) (hk : 0 ≤ k ∧ k ≤ 122) (ht : tOK (σ.2 25) 41 (σ.1 24) 1 0 0) (hm : 122 - k < (fu : Int)) : CJ jMod mown l G (Yx mX7_take) d 0 0 94 [some (.ref 116), some (vi k)] [] σ (det none (c_mtakeL3  fu k σ)) := by
  induction fu generalizing σ k with
  | zero => exact absurd hm (by omega)
  | succ fu ih =>
    refine C_iload_n dX7_take_94 rfl ?_
    refine C_aload_n dX7_take_95 rfl ?_
    refine C_get (v := vi (σ.1 29)) dX7_take_96 f_X7_193 (fun h hc => ⟨_, hc.1, rfl⟩) ?_
    have g_96 := hw.f29
    refine C_icmp_gt (tgt := 120) dX7_take_99 (by decide) (by omega) (by omega) (fun c_99 => ?_) (fun c_99 => ?_)
    · refine C_iconst dX7_take_120 ?_
      refine C_istore_n dX7_take_121 (by decide) rfl ?_
      simp only [List.set_cons_zero, List.set_cons_succ, jfin0, jfin1, jfin2, jfin3]
      rw [c_mtakeL3, if_pos (by omega)]
      refine CJ.mono (ls' := [some (.ref 116), some (vi 0)]) (lsub_ok (by repeat (first | exact trivial | refine ⟨rfl, ?_⟩))) (fun _ _ q => q) ?_
      exact t_mtakeL4 hw hd  (401) (by omega) (by exact ht) (by omega)
    · refine C_aload_n dX7_take_102 rfl ?_
      refine C_get (v := .ref 132) dX7_take_103 f_X7_60 (fun h hc => ⟨_, hc.1, rfl⟩) ?_
      refine C_iload_n dX7_take_106 rfl ?_
      refine C_aload_n dX7_take_107 rfl ?_
      refine C_get (v := .ref 127) dX7_take_108 f_X7_45 (fun h hc => ⟨_, hc.1, rfl⟩) ?_
      refine C_iload_n dX7_take_111 rfl ?_
      refine C_iald (v := vi (mat (σ.2 20) k)) dX7_take_112 (by omega) (by omega) (fun h hc => hc.rd20 hw (by omega) (by omega)) ?_
      have e_112 := hw.a20 k
      refine C_iast (σ' := (mar σ 30 k (mat (σ.2 20) k))) dX7_take_113 (by omega) (by omega) mo30 (fun h hc => hc.st30 hw (by omega) (by omega)) ?_
      have hw2 : wfm (mar σ 30 k (mat (σ.2 20) k)) := wfm_a (k := 30) hw (show (0 : Int) ≤ (mat (σ.2 20) k) ∧ (mat (σ.2 20) k) ≤ 400 by omega)
      refine C_iinc dX7_take_114 rfl (by decide) rfl ?_
      simp only [List.set_cons_zero, List.set_cons_succ]
      refine C_goto (tgt := 94) dX7_take_117 (by decide) ?_
      rw [c_mtakeL3, if_neg (by omega)]
      refine CJ.mono (ls' := [some (.ref 116), some (vi (k + 1))]) (lsub_ok (by repeat (first | exact trivial | refine ⟨rfl, ?_⟩))) (fun _ _ q => q) ?_
      exact ih hw2 (by omega) (by exact ht) (by omega)
theorem t_mtakeL2 {l : Launch} {G : jG} {d : Nat} {σ : mS}  {k : Int} (hw : wfm σ) (hd : 0 ≤ d)  (fu : Nat) (hk : 0 ≤ k ∧ k ≤ 122) (ht : tOK (σ.2 25) 41 (σ.1 24) 1 0 0) (hm : 122 - k < (fu : Int)) : CJ jMod mown l G (Yx mX7_take) d 0 0 66 [some (.ref 116), some (vi k)] [] σ (det none (c_mtakeL2  fu k σ)) := by
  induction fu generalizing σ k with
  | zero => exact absurd hm (by omega)
  | succ fu ih =>
    refine C_iload_n dX7_take_66 rfl ?_
    refine C_aload_n dX7_take_67 rfl ?_
    refine C_get (v := vi (σ.1 27)) dX7_take_68 f_X7_190 (fun h hc => ⟨_, hc.1, rfl⟩) ?_
    have g_68 := hw.f27
    refine C_icmp_gt (tgt := 92) dX7_take_71 (by decide) (by omega) (by omega) (fun c_71 => ?_) (fun c_71 => ?_)
    · refine C_iconst dX7_take_92 ?_
      refine C_istore_n dX7_take_93 (by decide) rfl ?_
      simp only [List.set_cons_zero, List.set_cons_succ, jfin0, jfin1, jfin2, jfin3]
      rw [c_mtakeL2, if_pos (by omega)]
      refine CJ.mono (ls' := [some (.ref 116), some (vi 0)]) (lsub_ok (by repeat (first | exact trivial | refine ⟨rfl, ?_⟩))) (fun _ _ q => q) ?_
      exact t_mtakeL3 hw hd  (123) (by omega) (by exact ht) (by omega)
    · refine C_aload_n dX7_take_74 rfl ?_
      refine C_get (v := .ref 131) dX7_take_75 f_X7_57 (fun h hc => ⟨_, hc.1, rfl⟩) ?_
      refine C_iload_n dX7_take_78 rfl ?_
      refine C_aload_n dX7_take_79 rfl ?_
      refine C_get (v := .ref 126) dX7_take_80 f_X7_42 (fun h hc => ⟨_, hc.1, rfl⟩) ?_
      refine C_iload_n dX7_take_83 rfl ?_
      refine C_iald (v := vi (mat (σ.2 18) k)) dX7_take_84 (by omega) (by omega) (fun h hc => hc.rd18 hw (by omega) (by omega)) ?_
      have e_84 := hw.a18 k
      refine C_iast (σ' := (mar σ 28 k (mat (σ.2 18) k))) dX7_take_85 (by omega) (by omega) mo28 (fun h hc => hc.st28 hw (by omega) (by omega)) ?_
      have hw2 : wfm (mar σ 28 k (mat (σ.2 18) k)) := wfm_a (k := 28) hw (show (0 : Int) ≤ (mat (σ.2 18) k) ∧ (mat (σ.2 18) k) ≤ 121 by omega)
      refine C_iinc dX7_take_86 rfl (by decide) rfl ?_
      simp only [List.set_cons_zero, List.set_cons_succ]
      refine C_goto (tgt := 66) dX7_take_89 (by decide) ?_
      rw [c_mtakeL2, if_neg (by omega)]
      refine CJ.mono (ls' := [some (.ref 116), some (vi (k + 1))]) (lsub_ok (by repeat (first | exact trivial | refine ⟨rfl, ?_⟩))) (fun _ _ q => q) ?_
      exact ih hw2 (by omega) (by first | exact ht | exact tOK_congr (by omega) (fun j h1 h2 => hcp j (by omega) (by omega)) ht) (by omega)
theorem t_mtakeL1 {l : Launch} {G : jG} {d : Nat} {σ : mS}  {k : Int} (hw : wfm σ) (hd : 0 ≤ d)  (fu : Nat) (hk : 0 ≤ k ∧ k ≤ 41) (ht : tOK (σ.2 15) 41 (σ.1 24) 1 0 0) (hcp : ∀ j, 0 ≤ j → j < k → mat (σ.2 25) j = mat (σ.2 15) j) (hm : 41 - k < (fu : Int)) : CJ jMod mown l G (Yx mX7_take) d 0 0 26 [some (.ref 116), some (vi k)] [] σ (det none (c_mtakeL1  fu k σ)) := by
  induction fu generalizing σ k with
  | zero => exact absurd hm (by omega)
  | succ fu ih =>
    refine C_iload_n dX7_take_26 rfl ?_
    refine C_aload_n dX7_take_27 rfl ?_
    refine C_get (v := vi (σ.1 24)) dX7_take_28 f_X7_187 (fun h hc => ⟨_, hc.1, rfl⟩) ?_
    have g_28 := hw.f24
    refine C_icmp_gt (tgt := 64) dX7_take_31 (by decide) (by omega) (by omega) (fun c_31 => ?_) (fun c_31 => ?_)
    · refine C_iconst dX7_take_64 ?_
      refine C_istore_n dX7_take_65 (by decide) rfl ?_
      simp only [List.set_cons_zero, List.set_cons_succ, jfin0, jfin1, jfin2, jfin3]
      rw [c_mtakeL1, if_pos (by omega)]
      refine CJ.mono (ls' := [some (.ref 116), some (vi 0)]) (lsub_ok (by repeat (first | exact trivial | refine ⟨rfl, ?_⟩))) (fun _ _ q => q) ?_
      exact t_mtakeL2 hw hd  (123) (by omega) (by first | exact ht | exact tOK_congr (by omega) (fun j h1 h2 => hcp j (by omega) (by omega)) ht) (by omega)
    · refine C_aload_n dX7_take_34 rfl ?_
      refine C_get (v := .ref 129) dX7_take_35 f_X7_51 (fun h hc => ⟨_, hc.1, rfl⟩) ?_
      refine C_iload_n dX7_take_38 rfl ?_
      refine C_aload_n dX7_take_39 rfl ?_
      refine C_get (v := .ref 124) dX7_take_40 f_X7_36 (fun h hc => ⟨_, hc.1, rfl⟩) ?_
      refine C_iload_n dX7_take_43 rfl ?_
      refine C_iald (v := vi (mat (σ.2 15) k)) dX7_take_44 (by omega) (by omega) (fun h hc => hc.rd15 hw (by omega) (by omega)) ?_
      have e_44 := hw.a15 k
      refine C_iast (σ' := (mar σ 25 k (mat (σ.2 15) k))) dX7_take_45 (by omega) (by omega) mo25 (fun h hc => hc.st25 hw (by omega) (by omega)) ?_
      have hw2 : wfm (mar σ 25 k (mat (σ.2 15) k)) := wfm_a (k := 25) hw (show (0 : Int) ≤ (mat (σ.2 15) k) ∧ (mat (σ.2 15) k) ≤ 16777215 by omega)
      refine C_aload_n dX7_take_46 rfl ?_
      refine C_get (v := .ref 130) dX7_take_47 f_X7_54 (fun h hc => ⟨_, hc.1, rfl⟩) ?_
      refine C_iload_n dX7_take_50 rfl ?_
      refine C_aload_n dX7_take_51 rfl ?_
      refine C_get (v := .ref 125) dX7_take_52 f_X7_39 (fun h hc => ⟨_, hc.1, rfl⟩) ?_
      refine C_iload_n dX7_take_55 rfl ?_
      refine C_iald (v := vi (mat (σ.2 16) k)) dX7_take_56 (by omega) (by omega) (fun h hc => (hc.rd16 hw2 (by omega) (by omega)).imp (fun vs q => ⟨q.1, q.2.trans (congrArg (fun z => some (vi (mat z k))) (show (mar σ 25 k (mat (σ.2 15) k)).2 16 = σ.2 16 by simp [mfl, mar, upF]))⟩)) ?_
      have e_56 := hw.a16 k
      refine C_iast (σ' := (mar (mar σ 25 k (mat (σ.2 15) k)) 26 k (mat (σ.2 16) k))) dX7_take_57 (by omega) (by omega) mo26 (fun h hc => hc.st26 hw2 (by omega) (by omega)) ?_
      have hw3 : wfm (mar (mar σ 25 k (mat (σ.2 15) k)) 26 k (mat (σ.2 16) k)) := wfm_a (k := 26) hw2 (show (0 : Int) ≤ (mat (σ.2 16) k) ∧ (mat (σ.2 16) k) ≤ 121 by omega)
      refine C_iinc dX7_take_58 rfl (by decide) rfl ?_
      simp only [List.set_cons_zero, List.set_cons_succ]
      refine C_goto (tgt := 26) dX7_take_61 (by decide) ?_
      rw [c_mtakeL1, if_neg (by omega)]
      refine CJ.mono (ls' := [some (.ref 116), some (vi (k + 1))]) (lsub_ok (by repeat (first | exact trivial | refine ⟨rfl, ?_⟩))) (fun _ _ q => q) ?_
      exact ih hw3 (by omega) (by exact ht) (by first | exact (fun j h0 h1 => absurd h1 (by omega)) | exact mat_cp hw.l25 (by omega) hcp) (by omega)
theorem t_mtake {l : Launch} {G : jG} {d : Nat} {σ : mS}  (hw : wfm σ) (hd : 0 ≤ d)  (ht : tOK (σ.2 15) 41 (σ.1 14) 1 0 0) : CJ jMod mown l G (Yx mX7_take) d 0 0 0 [some (.ref 116), none] [] σ (det none (c_mtake σ )) := by
  refine C_aload_n dX7_take_0 rfl ?_
  refine C_aload_n dX7_take_1 rfl ?_
  refine C_get (v := vi (σ.1 14)) dX7_take_2 f_X7_169 (fun h hc => ⟨_, hc.1, rfl⟩) ?_
  have g_2 := hw.f14
  refine C_put (σ' := (mfl σ 24 (σ.1 14))) dX7_take_5 f_X7_187 jfit_i mown_0 (fun h hc => hc.pf24) ?_
  have hw1 : wfm (mfl σ 24 (σ.1 14)) := wfm_f (k := 24) hw (show (0 : Int) ≤ (σ.1 14) ∧ (σ.1 14) ≤ 40 by omega)
  refine C_aload_n dX7_take_8 rfl ?_
  refine C_aload_n dX7_take_9 rfl ?_
  refine C_get (v := vi (σ.1 17)) dX7_take_10 f_X7_163 (fun h hc => ⟨_, hc.1, congrArg (fun z => some (vi z)) (show ((mfl σ 24 (σ.1 14)).1 17) = (σ.1 17) by simp [mfl, mar, upF])⟩) ?_
  have g_10 := hw.f17
  refine C_put (σ' := (mfl (mfl σ 24 (σ.1 14)) 27 (σ.1 17))) dX7_take_13 f_X7_190 jfit_i mown_0 (fun h hc => hc.pf27) ?_
  have hw2 : wfm (mfl (mfl σ 24 (σ.1 14)) 27 (σ.1 17)) := wfm_f (k := 27) hw1 (show (0 : Int) ≤ (σ.1 17) ∧ (σ.1 17) ≤ 121 by omega)
  refine C_aload_n dX7_take_16 rfl ?_
  refine C_aload_n dX7_take_17 rfl ?_
  refine C_get (v := vi (σ.1 19)) dX7_take_18 f_X7_157 (fun h hc => ⟨_, hc.1, congrArg (fun z => some (vi z)) (show ((mfl (mfl σ 24 (σ.1 14)) 27 (σ.1 17)).1 19) = (σ.1 19) by simp [mfl, mar, upF])⟩) ?_
  have g_18 := hw.f19
  refine C_put (σ' := (mfl (mfl (mfl σ 24 (σ.1 14)) 27 (σ.1 17)) 29 (σ.1 19))) dX7_take_21 f_X7_193 jfit_i mown_0 (fun h hc => hc.pf29) ?_
  have hw3 : wfm (mfl (mfl (mfl σ 24 (σ.1 14)) 27 (σ.1 17)) 29 (σ.1 19)) := wfm_f (k := 29) hw2 (show (0 : Int) ≤ (σ.1 19) ∧ (σ.1 19) ≤ 121 by omega)
  refine C_iconst dX7_take_24 ?_
  refine C_istore_n dX7_take_25 (by decide) rfl ?_
  simp only [List.set_cons_zero, List.set_cons_succ, jfin0, jfin1, jfin2, jfin3]
  rw [c_mtake]
  refine CJ.mono (ls' := [some (.ref 116), some (vi 0)]) (lsub_ok (by repeat (first | exact trivial | refine ⟨rfl, ?_⟩))) (fun _ _ q => q) ?_
  exact t_mtakeL1 hw3 hd  (42) (by omega) (by exact ht) (by first | exact (fun j h0 h1 => absurd h1 (by omega)) | exact mat_cp hw.l25 (by omega) hcp) (by omega)
theorem w_mtakeL5 {σ : mS}  {k : Int} (hw : wfm σ)  (fu : Nat) (hk : 1 ≤ k ∧ k ≤ 40) (ht : tOK (σ.2 25) fu (σ.1 24) k (σ.1 39) (σ.1 33)) : wfm (c_mtakeL5  fu k σ) := by
  induction fu generalizing σ k with
  | zero => exact hw
  | succ fu ih =>
    unfold c_mtakeL5
    split
    · have g_162 := hw.f24
      exact hw
    · split
      · have g_162 := hw.f24
        have e_175 := hw.a25 k
        have hx := ht (by omega)
        rw [if_pos (by assumption)] at hx
        have g_186 := hw.f39
        have hw11 : wfm (mar σ 40 (σ.1 39) k) := wfm_a (k := 40) hw (show (0 : Int) ≤ k ∧ k ≤ 40 by omega)
        have g_193 := hw.f39
        have hw12 : wfm (mfl (mar σ 40 (σ.1 39) k) 39 ((σ.1 39) + 1)) := wfm_f (k := 39) hw11 (show (0 : Int) ≤ ((σ.1 39) + 1) ∧ ((σ.1 39) + 1) ≤ 20 by omega)
        exact ih hw12 (by omega) (by first | exact hx.2 | exact ht | (have hx := ht (by omega); rw [if_neg (by assumption), if_neg (by assumption), if_neg (by assumption), if_neg (by assumption)] at hx; exact hx))
      · split
        · have g_162 := hw.f24
          have e_175 := hw.a25 k
          have e_209 := hw.a25 k
          have hx := ht (by omega)
          rw [if_neg (by assumption), if_pos (by assumption)] at hx
          have g_220 := hw.f39
          have hw10 : wfm (mar σ 41 ((σ.1 39) - 1) k) := wfm_a (k := 41) hw (show (0 : Int) ≤ k ∧ k ≤ 40 by omega)
          exact ih hw10 (by omega) (by first | exact hx.2 | exact ht | (have hx := ht (by omega); rw [if_neg (by assumption), if_neg (by assumption), if_neg (by assumption), if_neg (by assumption)] at hx; exact hx))
        · split
          · have g_162 := hw.f24
            have e_175 := hw.a25 k
            have e_209 := hw.a25 k
            have e_235 := hw.a25 k
            have hx := ht (by omega)
            rw [if_neg (by assumption), if_neg (by assumption), if_pos (by assumption)] at hx
            have g_246 := hw.f33
            have hw7 : wfm (mar σ 34 (σ.1 33) k) := wfm_a (k := 34) hw (show (0 : Int) ≤ k ∧ k ≤ 40 by omega)
            have g_256 := hw.f33
            have g_260 := hw.f39
            have hw8 : wfm (mar (mar σ 34 (σ.1 33) k) 36 (σ.1 33) ((σ.1 39) - 1)) := wfm_a (k := 36) hw7 (show (-1 : Int) ≤ ((σ.1 39) - 1) ∧ ((σ.1 39) - 1) ≤ 19 by omega)
            have g_268 := hw.f33
            have hw9 : wfm (mfl (mar (mar σ 34 (σ.1 33) k) 36 (σ.1 33) ((σ.1 39) - 1)) 33 ((σ.1 33) + 1)) := wfm_f (k := 33) hw8 (show (0 : Int) ≤ ((σ.1 33) + 1) ∧ ((σ.1 33) + 1) ≤ 20 by omega)
            exact ih hw9 (by omega) (by first | exact hx.2 | exact ht | (have hx := ht (by omega); rw [if_neg (by assumption), if_neg (by assumption), if_neg (by assumption), if_neg (by assumption)] at hx; exact hx))
          · split
            · have g_162 := hw.f24
              have e_175 := hw.a25 k
              have e_209 := hw.a25 k
              have e_235 := hw.a25 k
              have e_284 := hw.a25 k
              have hx := ht (by omega)
              rw [if_neg (by assumption), if_neg (by assumption), if_neg (by assumption), if_pos (by assumption)] at hx
              have g_295 := hw.f33
              have hw6 : wfm (mar σ 35 ((σ.1 33) - 1) k) := wfm_a (k := 35) hw (show (0 : Int) ≤ k ∧ k ≤ 40 by omega)
              exact ih hw6 (by omega) (by first | exact hx.2 | exact ht | (have hx := ht (by omega); rw [if_neg (by assumption), if_neg (by assumption), if_neg (by assumption), if_neg (by assumption)] at hx; exact hx))
            · have g_162 := hw.f24
              have e_175 := hw.a25 k
              have e_209 := hw.a25 k
              have e_235 := hw.a25 k
              have e_284 := hw.a25 k
              exact ih hw (by omega) (by first | exact hx.2 | exact ht | (have hx := ht (by omega); rw [if_neg (by assumption), if_neg (by assumption), if_neg (by assumption), if_neg (by assumption)] at hx; exact hx))
theorem w_mtakeL4 {σ : mS}  {k : Int} (hw : wfm σ)  (fu : Nat) (hk : 0 ≤ k ∧ k ≤ 400) (ht : tOK (σ.2 25) 41 (σ.1 24) 1 0 0) : wfm (c_mtakeL4  fu k σ) := by
  induction fu generalizing σ k with
  | zero => exact hw
  | succ fu ih =>
    unfold c_mtakeL4
    split
    · have g_124 := hw.f21
      have hw2 : wfm (mfl σ 33 0) := wfm_f (k := 33) hw (show (0 : Int) ≤ 0 ∧ 0 ≤ 20 by omega)
      have hw3 : wfm (mfl (mfl σ 33 0) 39 0) := wfm_f (k := 39) hw2 (show (0 : Int) ≤ 0 ∧ 0 ≤ 20 by omega)
      exact w_mtakeL5 hw3  (41) (by omega) (by first | exact hx.2 | exact ht | (have hx := ht (by omega); rw [if_neg (by assumption), if_neg (by assumption), if_neg (by assumption), if_neg (by assumption)] at hx; exact hx))
    · have g_124 := hw.f21
      have e_140 := hw.a22 k
      have hw4 : wfm (mar σ 31 k (mat (σ.2 22) k)) := wfm_a (k := 31) hw (show (0 : Int) ≤ (mat (σ.2 22) k) ∧ (mat (σ.2 22) k) ≤ 126 by omega)
      exact ih hw4 (by omega) (by exact ht)
theorem w_mtakeL3 {σ : mS}  {k : Int} (hw : wfm σ)  (fu : Nat) (hk : 0 ≤ k ∧ k ≤ 122) (ht : tOK (σ.2 25) 41 (σ.1 24) 1 0 0) : wfm (c_mtakeL3  fu k σ) := by
  induction fu generalizing σ k with
  | zero => exact hw
  | succ fu ih =>
    unfold c_mtakeL3
    split
    · have g_96 := hw.f29
      exact w_mtakeL4 hw  (401) (by omega) (by exact ht)
    · have g_96 := hw.f29
      have e_112 := hw.a20 k
      have hw2 : wfm (mar σ 30 k (mat (σ.2 20) k)) := wfm_a (k := 30) hw (show (0 : Int) ≤ (mat (σ.2 20) k) ∧ (mat (σ.2 20) k) ≤ 400 by omega)
      exact ih hw2 (by omega) (by exact ht)
theorem w_mtakeL2 {σ : mS}  {k : Int} (hw : wfm σ)  (fu : Nat) (hk : 0 ≤ k ∧ k ≤ 122) (ht : tOK (σ.2 25) 41 (σ.1 24) 1 0 0) : wfm (c_mtakeL2  fu k σ) := by
  induction fu generalizing σ k with
  | zero => exact hw
  | succ fu ih =>
    unfold c_mtakeL2
    split
    · have g_68 := hw.f27
      exact w_mtakeL3 hw  (123) (by omega) (by exact ht)
    · have g_68 := hw.f27
      have e_84 := hw.a18 k
      have hw2 : wfm (mar σ 28 k (mat (σ.2 18) k)) := wfm_a (k := 28) hw (show (0 : Int) ≤ (mat (σ.2 18) k) ∧ (mat (σ.2 18) k) ≤ 121 by omega)
      exact ih hw2 (by omega) (by first | exact ht | exact tOK_congr (by omega) (fun j h1 h2 => hcp j (by omega) (by omega)) ht)
theorem w_mtakeL1 {σ : mS}  {k : Int} (hw : wfm σ)  (fu : Nat) (hk : 0 ≤ k ∧ k ≤ 41) (ht : tOK (σ.2 15) 41 (σ.1 24) 1 0 0) (hcp : ∀ j, 0 ≤ j → j < k → mat (σ.2 25) j = mat (σ.2 15) j) : wfm (c_mtakeL1  fu k σ) := by
  induction fu generalizing σ k with
  | zero => exact hw
  | succ fu ih =>
    unfold c_mtakeL1
    split
    · have g_28 := hw.f24
      exact w_mtakeL2 hw  (123) (by omega) (by first | exact ht | exact tOK_congr (by omega) (fun j h1 h2 => hcp j (by omega) (by omega)) ht)
    · have g_28 := hw.f24
      have e_44 := hw.a15 k
      have hw2 : wfm (mar σ 25 k (mat (σ.2 15) k)) := wfm_a (k := 25) hw (show (0 : Int) ≤ (mat (σ.2 15) k) ∧ (mat (σ.2 15) k) ≤ 16777215 by omega)
      have e_56 := hw.a16 k
      have hw3 : wfm (mar (mar σ 25 k (mat (σ.2 15) k)) 26 k (mat (σ.2 16) k)) := wfm_a (k := 26) hw2 (show (0 : Int) ≤ (mat (σ.2 16) k) ∧ (mat (σ.2 16) k) ≤ 121 by omega)
      exact ih hw3 (by omega) (by exact ht) (by first | exact (fun j h0 h1 => absurd h1 (by omega)) | exact mat_cp hw.l25 (by omega) hcp)
theorem w_mtake {σ : mS}  (hw : wfm σ)  (ht : tOK (σ.2 15) 41 (σ.1 14) 1 0 0) : wfm (c_mtake σ ) := by
  unfold c_mtake
  have g_2 := hw.f14
  have hw1 : wfm (mfl σ 24 (σ.1 14)) := wfm_f (k := 24) hw (show (0 : Int) ≤ (σ.1 14) ∧ (σ.1 14) ≤ 40 by omega)
  have g_10 := hw.f17
  have hw2 : wfm (mfl (mfl σ 24 (σ.1 14)) 27 (σ.1 17)) := wfm_f (k := 27) hw1 (show (0 : Int) ≤ (σ.1 17) ∧ (σ.1 17) ≤ 121 by omega)
  have g_18 := hw.f19
  have hw3 : wfm (mfl (mfl (mfl σ 24 (σ.1 14)) 27 (σ.1 17)) 29 (σ.1 19)) := wfm_f (k := 29) hw2 (show (0 : Int) ≤ (σ.1 19) ∧ (σ.1 19) ≤ 121 by omega)
  exact w_mtakeL1 hw3  (42) (by omega) (by exact ht) (by first | exact (fun j h0 h1 => absurd h1 (by omega)) | exact mat_cp hw.l25 (by omega) hcp)
