section LX
variable {l : Launch} {G : jG} {Y : jY} {d bc bs n pc : Nat} {ls : List (Option Value)} {st : List Value} {h : jH} {K : jK}
theorem L_iadd {a b : Int} (hd : decode Y.1.2.1 pc = .ok (.iadd, 1)) (k : jJ l G Y d bc bs n (pc + 1) ls (vi (a + b) :: st) h K) : jJ l G Y d bc bs n pc ls (vi b :: vi a :: st) h K := J_iadd hd (by rw [iz_add]; exact k)
theorem L_sald {xs : List Int32} {a : Int} {v : Value} (hd : decode Y.1.2.1 pc = .ok (.iaload, 1)) (hc : h 0 = (20, xs.map .int)) (h0 : 0 ≤ a) (h1 : a < 2147483648) (hv : (xs.map Value.int)[a.toNat]? = some v) (k : jJ l G Y d bc bs n (pc + 1) ls (v :: st) h K) : jJ l G Y d bc bs n pc ls (vi a :: .ref 0 :: st) h K := J_sald hd hc (iz_nn h0 h1) (by rw [iz_clamp h0 h1]; exact hv) k
theorem L_lald {ov : Int64} (hd : decode Y.1.2.1 pc = .ok (.laload, 1)) (hc : h 146 = (11, [.long ov])) (k : jJ l G Y d bc bs n (pc + 1) ls (.long ov :: st) h K) : jJ l G Y d bc bs n pc ls (vi 0 :: .ref 146 :: st) h K := J_lald hd hc (by decide) rfl k
end LX
theorem ecode_rg {a b : String} {c : Option String} : rg (ecode a b c) := by
  unfold ecode; (repeat' split) <;> exact ⟨by decide, by decide⟩
theorem ecode_0 {a b : String} {c : Option String} (h : ecode a b c = 0) : c = none := by
  unfold ecode at h; split at h
  · rfl
  · (repeat' split at h) <;> omega
theorem op_type {l : Launch} {G : jG} {xs : List Int32} {ov : Int64} {σ : cS} {μ : mS} {n : Nat} {h : jH} {fu : Nat} {i t1 t2 t3 t4 : Int} (hb : BIS) (hr : R σ μ) (hg : GI xs ov σ μ h) (hn : 147 ≤ n) (hi : 0 ≤ i ∧ i ≤ 3000) (g1 : (xs.map Value.int)[(i + 1).toNat]? = some (vi t1)) (g2 : (xs.map Value.int)[(i + 2).toNat]? = some (vi t2)) (g3 : (xs.map Value.int)[(i + 3).toNat]? = some (vi t3)) (g4 : (xs.map Value.int)[(i + 4).toNat]? = some (vi t4)) (r1 : rg t1) (r2 : rg t2) (r3 : rg t3) (r4 : rg t4) (ih : ∀ (σ : cS) (μ : mS) (n : Nat) (h : jH) (ov : Int64), R σ μ → GI xs ov σ μ h → 147 ≤ n → jJ l G (YL, []) 11 fu (6 * fu) n 964 [some (.ref 0), some (.ref 1), some (.ref 116), some (.ref 146), some (vi i), none, none] [] h (fun o _ _ => o = .inl (some (.int 1)))) : jJ l G (YL, []) 11 (fu + 1) (6 * fu + 6) n 112 [some (.ref 0), some (.ref 1), some (.ref 116), some (.ref 146), some (vi i), none, none] [] h (fun o _ _ => o = .inl (some (.int 1))) := by
  have B := (hb σ μ hr).1
  refine J_aload_n dL_law_112 rfl ?_
  refine J_aload_n dL_law_113 rfl ?_
  refine J_iload dL_law_114 rfl ?_
  refine J_iconst (v := Int32.ofInt 1) dL_law_116 (by decide) ?_
  refine L_iadd dL_law_117 ?_
  refine L_sald dL_law_118 hg.2.2.1 (by omega) (by omega) g1 ?_
  refine J_i2l dL_law_119 ?_
  refine J_bipush (v := Int32.ofInt 32) dL_law_120 (by decide) ?_
  refine J_lshl dL_law_122 rfl ?_
  refine J_aload_n dL_law_123 rfl ?_
  refine J_iload dL_law_124 rfl ?_
  refine J_iconst (v := Int32.ofInt 2) dL_law_126 (by decide) ?_
  refine L_iadd dL_law_127 ?_
  refine L_sald dL_law_128 hg.2.2.1 (by omega) (by omega) g2 ?_
  refine J_i2l dL_law_129 ?_
  refine J_ldc2 dL_law_130 k_L_59 ?_
  refine J_land dL_law_133 ?_
  refine J_lor dL_law_134 ?_
  refine L_cls (As := [.long (((Int32.ofInt t1).toInt64 <<< ((Int32.ofInt 32).toInt64 &&& 63)) ||| ((Int32.ofInt t2).toInt64 &&& 4294967295))]) (d' := 2) dL_law_135 v_L_61 (t_type hr.1 (by omega)) hg rfl (Nat.le_of_ble_eq_true rfl) (by omega) (Nat.le_of_ble_eq_true rfl) (fun h' hg1 => ?_)
  simp only [Option.toList, List.cons_append, List.nil_append]
  refine J_aload_n dL_law_138 rfl ?_
  refine J_aload_n dL_law_139 rfl ?_
  refine J_iload dL_law_140 rfl ?_
  refine J_iconst (v := Int32.ofInt 1) dL_law_142 (by decide) ?_
  refine L_iadd dL_law_143 ?_
  refine L_sald dL_law_144 hg1.2.2.1 (by omega) (by omega) g1 ?_
  refine J_i2l dL_law_145 ?_
  refine J_bipush (v := Int32.ofInt 32) dL_law_146 (by decide) ?_
  refine J_lshl dL_law_148 rfl ?_
  refine J_aload_n dL_law_149 rfl ?_
  refine J_iload dL_law_150 rfl ?_
  refine J_iconst (v := Int32.ofInt 2) dL_law_152 (by decide) ?_
  refine L_iadd dL_law_153 ?_
  refine L_sald dL_law_154 hg1.2.2.1 (by omega) (by omega) g2 ?_
  refine J_i2l dL_law_155 ?_
  refine J_ldc2 dL_law_156 k_L_59 ?_
  refine J_land dL_law_159 ?_
  refine J_lor dL_law_160 ?_
  refine L_mod (As := [.long (((Int32.ofInt t1).toInt64 <<< ((Int32.ofInt 32).toInt64 &&& 63)) ||| ((Int32.ofInt t2).toInt64 &&& 4294967295))]) (d' := 0) dL_law_161 v_L_65 (t_mtype hr.2.1 (by omega) ) hg1 rfl (Nat.le_of_ble_eq_true rfl) (by omega) (Nat.le_of_ble_eq_true rfl) (fun h' hg2 => ?_)
  simp only [Option.toList, List.cons_append, List.nil_append]
  refine L_cmp (tgt := 964) dL_law_164 (by decide) (by rw [(B ((((Int32.ofInt t1).toInt64 <<< ((Int32.ofInt 32).toInt64 &&& 63)) ||| ((Int32.ofInt t2).toInt64 &&& 4294967295)))).1]) ?_
  refine jJ.widen (d' := 11) (bc' := fu) (bs' := 6 * fu) (Nat.le_refl _) (by omega) (by omega) ?_
  refine jJ.mono (ls' := [some (.ref 0), some (.ref 1), some (.ref 116), some (.ref 146), some (vi i), none, none]) (lsub_ok (by repeat (first | exact trivial | refine ⟨rfl, ?_⟩))) (fun _ _ _ q => q) ?_
  exact ih _ _ _ _ _ (B ((((Int32.ofInt t1).toInt64 <<< ((Int32.ofInt 32).toInt64 &&& 63)) ||| ((Int32.ofInt t2).toInt64 &&& 4294967295)))).2 hg2 (by omega)
theorem op_wipe {l : Launch} {G : jG} {xs : List Int32} {ov : Int64} {σ : cS} {μ : mS} {n : Nat} {h : jH} {fu : Nat} {i t1 t2 t3 t4 : Int} (hb : BIS) (hr : R σ μ) (hg : GI xs ov σ μ h) (hn : 147 ≤ n) (hi : 0 ≤ i ∧ i ≤ 3000) (g1 : (xs.map Value.int)[(i + 1).toNat]? = some (vi t1)) (g2 : (xs.map Value.int)[(i + 2).toNat]? = some (vi t2)) (g3 : (xs.map Value.int)[(i + 3).toNat]? = some (vi t3)) (g4 : (xs.map Value.int)[(i + 4).toNat]? = some (vi t4)) (r1 : rg t1) (r2 : rg t2) (r3 : rg t3) (r4 : rg t4) (ih : ∀ (σ : cS) (μ : mS) (n : Nat) (h : jH) (ov : Int64), R σ μ → GI xs ov σ μ h → 147 ≤ n → jJ l G (YL, []) 11 fu (6 * fu) n 964 [some (.ref 0), some (.ref 1), some (.ref 116), some (.ref 146), some (vi i), none, none] [] h (fun o _ _ => o = .inl (some (.int 1)))) : jJ l G (YL, []) 11 (fu + 1) (6 * fu + 6) n 169 [some (.ref 0), some (.ref 1), some (.ref 116), some (.ref 146), some (vi i), none, none] [] h (fun o _ _ => o = .inl (some (.int 1))) := by
  have B := (hb σ μ hr).2.1
  refine J_aload_n dL_law_169 rfl ?_
  refine L_cls (As := []) (d' := 2) dL_law_170 v_L_66 (t_wipe hr.1 (by omega)) hg rfl (Nat.le_of_ble_eq_true rfl) (by omega) (Nat.le_of_ble_eq_true rfl) (fun h' hg1 => ?_)
  simp only [Option.toList, List.cons_append, List.nil_append]
  refine J_aload_n dL_law_173 rfl ?_
  refine L_mod (As := []) (d' := 0) dL_law_174 v_L_69 (t_mwipe hr.2.1 (by omega) ) hg1 rfl (Nat.le_of_ble_eq_true rfl) (by omega) (Nat.le_of_ble_eq_true rfl) (fun h' hg2 => ?_)
  simp only [Option.toList, List.cons_append, List.nil_append]
  refine J_goto (tgt := 964) dL_law_177 (by decide) ?_
  refine jJ.widen (d' := 11) (bc' := fu) (bs' := 6 * fu) (Nat.le_refl _) (by omega) (by omega) ?_
  refine jJ.mono (ls' := [some (.ref 0), some (.ref 1), some (.ref 116), some (.ref 146), some (vi i), none, none]) (lsub_ok (by repeat (first | exact trivial | refine ⟨rfl, ?_⟩))) (fun _ _ _ q => q) ?_
  exact ih _ _ _ _ _ B hg2 (by omega)
theorem op_length {l : Launch} {G : jG} {xs : List Int32} {ov : Int64} {σ : cS} {μ : mS} {n : Nat} {h : jH} {fu : Nat} {i t1 t2 t3 t4 : Int} (hb : BIS) (hr : R σ μ) (hg : GI xs ov σ μ h) (hn : 147 ≤ n) (hi : 0 ≤ i ∧ i ≤ 3000) (g1 : (xs.map Value.int)[(i + 1).toNat]? = some (vi t1)) (g2 : (xs.map Value.int)[(i + 2).toNat]? = some (vi t2)) (g3 : (xs.map Value.int)[(i + 3).toNat]? = some (vi t3)) (g4 : (xs.map Value.int)[(i + 4).toNat]? = some (vi t4)) (r1 : rg t1) (r2 : rg t2) (r3 : rg t3) (r4 : rg t4) (ih : ∀ (σ : cS) (μ : mS) (n : Nat) (h : jH) (ov : Int64), R σ μ → GI xs ov σ μ h → 147 ≤ n → jJ l G (YL, []) 11 fu (6 * fu) n 964 [some (.ref 0), some (.ref 1), some (.ref 116), some (.ref 146), some (vi i), none, none] [] h (fun o _ _ => o = .inl (some (.int 1)))) : jJ l G (YL, []) 11 (fu + 1) (6 * fu + 6) n 180 [some (.ref 0), some (.ref 1), some (.ref 116), some (.ref 146), some (vi i), none, none] [] h (fun o _ _ => o = .inl (some (.int 1))) := by
  have B := (hb σ μ hr).2.2.1
  refine J_aload_n dL_law_180 rfl ?_
  refine L_cls (As := []) (d' := 2) dL_law_181 v_L_70 (t_length hr.1 (by omega)) hg rfl (Nat.le_of_ble_eq_true rfl) (by omega) (Nat.le_of_ble_eq_true rfl) (fun h' hg1 => ?_)
  simp only [Option.toList, List.cons_append, List.nil_append]
  refine J_aload_n dL_law_184 rfl ?_
  refine L_mod (As := []) (d' := 0) dL_law_185 v_L_73 (t_mlength hr.2.1 (by omega) ) hg1 rfl (Nat.le_of_ble_eq_true rfl) (by omega) (Nat.le_of_ble_eq_true rfl) (fun h' hg2 => ?_)
  simp only [Option.toList, List.cons_append, List.nil_append]
  refine L_cmp (tgt := 964) dL_law_188 (by decide) B.1 ?_
  refine jJ.widen (d' := 11) (bc' := fu) (bs' := 6 * fu) (Nat.le_refl _) (by omega) (by omega) ?_
  refine jJ.mono (ls' := [some (.ref 0), some (.ref 1), some (.ref 116), some (.ref 146), some (vi i), none, none]) (lsub_ok (by repeat (first | exact trivial | refine ⟨rfl, ?_⟩))) (fun _ _ _ q => q) ?_
  exact ih _ _ _ _ _ B.2 hg2 (by omega)
theorem op_slot {l : Launch} {G : jG} {xs : List Int32} {ov : Int64} {σ : cS} {μ : mS} {n : Nat} {h : jH} {fu : Nat} {i t1 t2 t3 t4 : Int} (hb : BIS) (hr : R σ μ) (hg : GI xs ov σ μ h) (hn : 147 ≤ n) (hi : 0 ≤ i ∧ i ≤ 3000) (g1 : (xs.map Value.int)[(i + 1).toNat]? = some (vi t1)) (g2 : (xs.map Value.int)[(i + 2).toNat]? = some (vi t2)) (g3 : (xs.map Value.int)[(i + 3).toNat]? = some (vi t3)) (g4 : (xs.map Value.int)[(i + 4).toNat]? = some (vi t4)) (r1 : rg t1) (r2 : rg t2) (r3 : rg t3) (r4 : rg t4) (ih : ∀ (σ : cS) (μ : mS) (n : Nat) (h : jH) (ov : Int64), R σ μ → GI xs ov σ μ h → 147 ≤ n → jJ l G (YL, []) 11 fu (6 * fu) n 964 [some (.ref 0), some (.ref 1), some (.ref 116), some (.ref 146), some (vi i), none, none] [] h (fun o _ _ => o = .inl (some (.int 1)))) : jJ l G (YL, []) 11 (fu + 1) (6 * fu + 6) n 193 [some (.ref 0), some (.ref 1), some (.ref 116), some (.ref 146), some (vi i), none, none] [] h (fun o _ _ => o = .inl (some (.int 1))) := by
  have B := (hb σ μ hr).2.2.2.2.1
  refine J_aload_n dL_law_193 rfl ?_
  refine J_aload_n dL_law_194 rfl ?_
  refine J_iload dL_law_195 rfl ?_
  refine J_iconst (v := Int32.ofInt 1) dL_law_197 (by decide) ?_
  refine L_iadd dL_law_198 ?_
  refine L_sald dL_law_199 hg.2.2.1 (by omega) (by omega) g1 ?_
  refine J_aload_n dL_law_200 rfl ?_
  refine J_iload dL_law_201 rfl ?_
  refine J_iconst (v := Int32.ofInt 2) dL_law_203 (by decide) ?_
  refine L_iadd dL_law_204 ?_
  refine L_sald dL_law_205 hg.2.2.1 (by omega) (by omega) g2 ?_
  refine J_aload_n dL_law_206 rfl ?_
  refine J_iload dL_law_207 rfl ?_
  refine J_iconst (v := Int32.ofInt 3) dL_law_209 (by decide) ?_
  refine L_iadd dL_law_210 ?_
  refine L_sald dL_law_211 hg.2.2.1 (by omega) (by omega) g3 ?_
  refine L_if_eq (tgt := 219) dL_law_212 (by decide) r3 (fun z0 => ?_) (fun z0 => ?_)
  · skip
    refine J_iconst (v := Int32.ofInt 0) dL_law_219 (by decide) ?_
    refine J_aload_n dL_law_220 rfl ?_
    refine J_iload dL_law_221 rfl ?_
    refine J_iconst (v := Int32.ofInt 4) dL_law_223 (by decide) ?_
    refine L_iadd dL_law_224 ?_
    refine L_sald dL_law_225 hg.2.2.1 (by omega) (by omega) g4 ?_
    refine J_aload_n dL_law_226 rfl ?_
    have A := B t1 t2 0 t4 r1 r2 (by omega) (by omega) r4
    refine J_callSW (As := [.ref 1, vi t1, vi t2, vi 0, vi t4, .ref 146]) (bc := fu) (bs := 6 * fu) (bc' := 1) (bs' := 6) (d' := 7) dL_law_227 s_L_74 rfl (Nat.le_of_ble_eq_true rfl) (by omega) (Nat.le_of_ble_eq_true rfl) (H_slot hr.1 hr.hdp hn hg r1 r2 (by omega) r4 A.1) (fun E n' h' q => by cases q.1) (fun v' n' h' q => ?_)
    obtain ⟨q1, q2, ov2, hq, q3⟩ := q
    cases Sum.inl.inj q1
    simp only [Option.toList, List.cons_append, List.nil_append]
    refine J_istore dL_law_230 (by decide) rfl ?_
    refine J_aload_n dL_law_232 rfl ?_
    refine J_aload_n dL_law_233 rfl ?_
    refine J_iload dL_law_234 rfl ?_
    refine J_iconst (v := Int32.ofInt 1) dL_law_236 (by decide) ?_
    refine L_iadd dL_law_237 ?_
    refine L_sald dL_law_238 hq.2.2.1 (by omega) (by omega) g1 ?_
    refine J_aload_n dL_law_239 rfl ?_
    refine J_iload dL_law_240 rfl ?_
    refine J_iconst (v := Int32.ofInt 2) dL_law_242 (by decide) ?_
    refine L_iadd dL_law_243 ?_
    refine L_sald dL_law_244 hq.2.2.1 (by omega) (by omega) g2 ?_
    refine J_aload_n dL_law_245 rfl ?_
    refine J_iload dL_law_246 rfl ?_
    refine J_iconst (v := Int32.ofInt 3) dL_law_248 (by decide) ?_
    refine L_iadd dL_law_249 ?_
    refine L_sald dL_law_250 hq.2.2.1 (by omega) (by omega) g3 ?_
    refine L_if_eq (tgt := 258) dL_law_251 (by decide) r3 (fun _ => ?_) (fun z9 => absurd z0 z9)
    refine J_iconst (v := Int32.ofInt 0) dL_law_258 (by decide) ?_
    refine J_aload_n dL_law_259 rfl ?_
    refine J_iload dL_law_260 rfl ?_
    refine J_iconst (v := Int32.ofInt 4) dL_law_262 (by decide) ?_
    refine L_iadd dL_law_263 ?_
    refine L_sald dL_law_264 hq.2.2.1 (by omega) (by omega) g4 ?_
    refine L_mod (As := [vi t1, vi t2, vi 0, vi t4]) (d' := 2) dL_law_265 v_L_79 (t_mslot hr.2.1 (by omega) r1 r2 (by omega) r4) hq rfl (Nat.le_of_ble_eq_true rfl) (by omega) (Nat.le_of_ble_eq_true rfl) (fun h' hg1 => ?_)
    simp only [Option.toList, List.cons_append, List.nil_append]
    refine J_istore dL_law_268 (by decide) rfl ?_
    refine J_aload_n dL_law_270 rfl ?_
    refine L_mod (As := []) (d' := 0) dL_law_271 v_L_80 (t_mthrown A.2.1.2.1 (by omega)) hg1 rfl (Nat.le_of_ble_eq_true rfl) (by omega) (Nat.le_of_ble_eq_true rfl) (fun h' hg2 => ?_)
    simp only [Option.toList, List.cons_append, List.nil_append]
    refine J_iload dL_law_274 rfl ?_
    refine L_cmp (tgt := 281) dL_law_276 (by decide) A.2.2.1 ?_
    refine J_iload dL_law_281 rfl ?_
    refine L_if_ne (tgt := 298) dL_law_283 (by decide) ecode_rg (fun z => ?_) (fun z => ?_)
    · skip
      refine J_goto (tgt := 964) dL_law_298 (by decide) ?_
      refine jJ.mono (ls' := [some (.ref 0), some (.ref 1), some (.ref 116), some (.ref 146), some (vi i), none, none]) (lsub_ok (by repeat (first | exact trivial | refine ⟨rfl, ?_⟩))) (fun _ _ _ q => q) ?_
      exact ih _ _ _ _ _ A.2.1 hg2 (by omega)
    · have e := ecode_0 z
      have e2 := A.2.2.2 e
      have e3 := q3 e
      refine J_aload_n dL_law_286 rfl ?_
      refine J_iconst (v := Int32.ofInt 0) dL_law_287 (by decide) ?_
      refine L_lald dL_law_288 hg2.2.2.2 ?_
      refine J_iload dL_law_289 rfl ?_
      refine J_i2l dL_law_291 ?_
      refine L_lcmp (tgt := 298) dL_law_292 dL_law_293 (by decide) (by rw [e3, e2]) ?_
      refine J_goto (tgt := 964) dL_law_298 (by decide) ?_
      refine jJ.mono (ls' := [some (.ref 0), some (.ref 1), some (.ref 116), some (.ref 146), some (vi i), none, none]) (lsub_ok (by repeat (first | exact trivial | refine ⟨rfl, ?_⟩))) (fun _ _ _ q => q) ?_
      exact ih _ _ _ _ _ A.2.1 hg2 (by omega)
  · skip
    refine J_iconst (v := Int32.ofInt 1) dL_law_215 (by decide) ?_
    refine J_goto (tgt := 220) dL_law_216 (by decide) ?_
    refine J_aload_n dL_law_220 rfl ?_
    refine J_iload dL_law_221 rfl ?_
    refine J_iconst (v := Int32.ofInt 4) dL_law_223 (by decide) ?_
    refine L_iadd dL_law_224 ?_
    refine L_sald dL_law_225 hg.2.2.1 (by omega) (by omega) g4 ?_
    refine J_aload_n dL_law_226 rfl ?_
    have A := B t1 t2 1 t4 r1 r2 (by omega) (by omega) r4
    refine J_callSW (As := [.ref 1, vi t1, vi t2, vi 1, vi t4, .ref 146]) (bc := fu) (bs := 6 * fu) (bc' := 1) (bs' := 6) (d' := 7) dL_law_227 s_L_74 rfl (Nat.le_of_ble_eq_true rfl) (by omega) (Nat.le_of_ble_eq_true rfl) (H_slot hr.1 hr.hdp hn hg r1 r2 (by omega) r4 A.1) (fun E n' h' q => by cases q.1) (fun v' n' h' q => ?_)
    obtain ⟨q1, q2, ov2, hq, q3⟩ := q
    cases Sum.inl.inj q1
    simp only [Option.toList, List.cons_append, List.nil_append]
    refine J_istore dL_law_230 (by decide) rfl ?_
    refine J_aload_n dL_law_232 rfl ?_
    refine J_aload_n dL_law_233 rfl ?_
    refine J_iload dL_law_234 rfl ?_
    refine J_iconst (v := Int32.ofInt 1) dL_law_236 (by decide) ?_
    refine L_iadd dL_law_237 ?_
    refine L_sald dL_law_238 hq.2.2.1 (by omega) (by omega) g1 ?_
    refine J_aload_n dL_law_239 rfl ?_
    refine J_iload dL_law_240 rfl ?_
    refine J_iconst (v := Int32.ofInt 2) dL_law_242 (by decide) ?_
    refine L_iadd dL_law_243 ?_
    refine L_sald dL_law_244 hq.2.2.1 (by omega) (by omega) g2 ?_
    refine J_aload_n dL_law_245 rfl ?_
    refine J_iload dL_law_246 rfl ?_
    refine J_iconst (v := Int32.ofInt 3) dL_law_248 (by decide) ?_
    refine L_iadd dL_law_249 ?_
    refine L_sald dL_law_250 hq.2.2.1 (by omega) (by omega) g3 ?_
    refine L_if_eq (tgt := 258) dL_law_251 (by decide) r3 (fun z9 => absurd z9 z0) (fun _ => ?_)
    refine J_iconst (v := Int32.ofInt 1) dL_law_254 (by decide) ?_
    refine J_goto (tgt := 259) dL_law_255 (by decide) ?_
    refine J_aload_n dL_law_259 rfl ?_
    refine J_iload dL_law_260 rfl ?_
    refine J_iconst (v := Int32.ofInt 4) dL_law_262 (by decide) ?_
    refine L_iadd dL_law_263 ?_
    refine L_sald dL_law_264 hq.2.2.1 (by omega) (by omega) g4 ?_
    refine L_mod (As := [vi t1, vi t2, vi 1, vi t4]) (d' := 2) dL_law_265 v_L_79 (t_mslot hr.2.1 (by omega) r1 r2 (by omega) r4) hq rfl (Nat.le_of_ble_eq_true rfl) (by omega) (Nat.le_of_ble_eq_true rfl) (fun h' hg1 => ?_)
    simp only [Option.toList, List.cons_append, List.nil_append]
    refine J_istore dL_law_268 (by decide) rfl ?_
    refine J_aload_n dL_law_270 rfl ?_
    refine L_mod (As := []) (d' := 0) dL_law_271 v_L_80 (t_mthrown A.2.1.2.1 (by omega)) hg1 rfl (Nat.le_of_ble_eq_true rfl) (by omega) (Nat.le_of_ble_eq_true rfl) (fun h' hg2 => ?_)
    simp only [Option.toList, List.cons_append, List.nil_append]
    refine J_iload dL_law_274 rfl ?_
    refine L_cmp (tgt := 281) dL_law_276 (by decide) A.2.2.1 ?_
    refine J_iload dL_law_281 rfl ?_
    refine L_if_ne (tgt := 298) dL_law_283 (by decide) ecode_rg (fun z => ?_) (fun z => ?_)
    · skip
      refine J_goto (tgt := 964) dL_law_298 (by decide) ?_
      refine jJ.mono (ls' := [some (.ref 0), some (.ref 1), some (.ref 116), some (.ref 146), some (vi i), none, none]) (lsub_ok (by repeat (first | exact trivial | refine ⟨rfl, ?_⟩))) (fun _ _ _ q => q) ?_
      exact ih _ _ _ _ _ A.2.1 hg2 (by omega)
    · have e := ecode_0 z
      have e2 := A.2.2.2 e
      have e3 := q3 e
      refine J_aload_n dL_law_286 rfl ?_
      refine J_iconst (v := Int32.ofInt 0) dL_law_287 (by decide) ?_
      refine L_lald dL_law_288 hg2.2.2.2 ?_
      refine J_iload dL_law_289 rfl ?_
      refine J_i2l dL_law_291 ?_
      refine L_lcmp (tgt := 298) dL_law_292 dL_law_293 (by decide) (by rw [e3, e2]) ?_
      refine J_goto (tgt := 964) dL_law_298 (by decide) ?_
      refine jJ.mono (ls' := [some (.ref 0), some (.ref 1), some (.ref 116), some (.ref 146), some (vi i), none, none]) (lsub_ok (by repeat (first | exact trivial | refine ⟨rfl, ?_⟩))) (fun _ _ _ q => q) ?_
      exact ih _ _ _ _ _ A.2.1 hg2 (by omega)
theorem op_open {l : Launch} {G : jG} {xs : List Int32} {ov : Int64} {σ : cS} {μ : mS} {n : Nat} {h : jH} {fu : Nat} {i t1 t2 t3 t4 : Int} (hb : BIS) (hr : R σ μ) (hg : GI xs ov σ μ h) (hn : 147 ≤ n) (hi : 0 ≤ i ∧ i ≤ 3000) (g1 : (xs.map Value.int)[(i + 1).toNat]? = some (vi t1)) (g2 : (xs.map Value.int)[(i + 2).toNat]? = some (vi t2)) (g3 : (xs.map Value.int)[(i + 3).toNat]? = some (vi t3)) (g4 : (xs.map Value.int)[(i + 4).toNat]? = some (vi t4)) (r1 : rg t1) (r2 : rg t2) (r3 : rg t3) (r4 : rg t4) (ih : ∀ (σ : cS) (μ : mS) (n : Nat) (h : jH) (ov : Int64), R σ μ → GI xs ov σ μ h → 147 ≤ n → jJ l G (YL, []) 11 fu (6 * fu) n 964 [some (.ref 0), some (.ref 1), some (.ref 116), some (.ref 146), some (vi i), none, none] [] h (fun o _ _ => o = .inl (some (.int 1)))) : jJ l G (YL, []) 11 (fu + 1) (6 * fu + 6) n 301 [some (.ref 0), some (.ref 1), some (.ref 116), some (.ref 146), some (vi i), none, none] [] h (fun o _ _ => o = .inl (some (.int 1))) := by
  have B := (hb σ μ hr).2.2.2.2.2.1
  refine J_aload_n dL_law_301 rfl ?_
  refine J_aload_n dL_law_302 rfl ?_
  refine J_iload dL_law_303 rfl ?_
  refine J_iconst (v := Int32.ofInt 1) dL_law_305 (by decide) ?_
  refine L_iadd dL_law_306 ?_
  refine L_sald dL_law_307 hg.2.2.1 (by omega) (by omega) g1 ?_
  refine J_aload_n dL_law_308 rfl ?_
  refine J_iload dL_law_309 rfl ?_
  refine J_iconst (v := Int32.ofInt 2) dL_law_311 (by decide) ?_
  refine L_iadd dL_law_312 ?_
  refine L_sald dL_law_313 hg.2.2.1 (by omega) (by omega) g2 ?_
  refine L_if_eq (tgt := 321) dL_law_314 (by decide) r2 (fun z0 => ?_) (fun z0 => ?_)
  · skip
    refine J_iconst (v := Int32.ofInt 0) dL_law_321 (by decide) ?_
    refine J_aload_n dL_law_322 rfl ?_
    refine J_iload dL_law_323 rfl ?_
    refine J_iconst (v := Int32.ofInt 3) dL_law_325 (by decide) ?_
    refine L_iadd dL_law_326 ?_
    refine L_sald dL_law_327 hg.2.2.1 (by omega) (by omega) g3 ?_
    refine J_aload_n dL_law_328 rfl ?_
    have A := B t1 0 t3 r1 (by omega) (by omega) r3
    refine J_callSW (As := [.ref 1, vi t1, vi 0, vi t3, .ref 146]) (bc := fu) (bs := 6 * fu) (bc' := 1) (bs' := 6) (d' := 7) dL_law_329 s_L_83 rfl (Nat.le_of_ble_eq_true rfl) (by omega) (Nat.le_of_ble_eq_true rfl) (H_open hr.1 hr.hdp hn hg r1 (by omega) r3 A.1) (fun E n' h' q => by cases q.1) (fun v' n' h' q => ?_)
    obtain ⟨q1, q2, ov2, hq, q3⟩ := q
    cases Sum.inl.inj q1
    simp only [Option.toList, List.cons_append, List.nil_append]
    refine J_istore dL_law_332 (by decide) rfl ?_
    refine J_aload_n dL_law_334 rfl ?_
    refine J_aload_n dL_law_335 rfl ?_
    refine J_iload dL_law_336 rfl ?_
    refine J_iconst (v := Int32.ofInt 1) dL_law_338 (by decide) ?_
    refine L_iadd dL_law_339 ?_
    refine L_sald dL_law_340 hq.2.2.1 (by omega) (by omega) g1 ?_
    refine J_aload_n dL_law_341 rfl ?_
    refine J_iload dL_law_342 rfl ?_
    refine J_iconst (v := Int32.ofInt 2) dL_law_344 (by decide) ?_
    refine L_iadd dL_law_345 ?_
    refine L_sald dL_law_346 hq.2.2.1 (by omega) (by omega) g2 ?_
    refine L_if_eq (tgt := 354) dL_law_347 (by decide) r2 (fun _ => ?_) (fun z9 => absurd z0 z9)
    refine J_iconst (v := Int32.ofInt 0) dL_law_354 (by decide) ?_
    refine J_aload_n dL_law_355 rfl ?_
    refine J_iload dL_law_356 rfl ?_
    refine J_iconst (v := Int32.ofInt 3) dL_law_358 (by decide) ?_
    refine L_iadd dL_law_359 ?_
    refine L_sald dL_law_360 hq.2.2.1 (by omega) (by omega) g3 ?_
    refine L_mod (As := [vi t1, vi 0, vi t3]) (d' := 2) dL_law_361 v_L_86 (t_mopen hr.2.1 (by omega) r1 (by omega) r3 hr.hx) hq rfl (Nat.le_of_ble_eq_true rfl) (by omega) (Nat.le_of_ble_eq_true rfl) (fun h' hg1 => ?_)
    simp only [Option.toList, List.cons_append, List.nil_append]
    refine J_istore dL_law_364 (by decide) rfl ?_
    refine J_aload_n dL_law_366 rfl ?_
    refine L_mod (As := []) (d' := 0) dL_law_367 v_L_80 (t_mthrown A.2.1.2.1 (by omega)) hg1 rfl (Nat.le_of_ble_eq_true rfl) (by omega) (Nat.le_of_ble_eq_true rfl) (fun h' hg2 => ?_)
    simp only [Option.toList, List.cons_append, List.nil_append]
    refine J_iload dL_law_370 rfl ?_
    refine L_cmp (tgt := 377) dL_law_372 (by decide) A.2.2.1 ?_
    refine J_iload dL_law_377 rfl ?_
    refine L_if_ne (tgt := 394) dL_law_379 (by decide) ecode_rg (fun z => ?_) (fun z => ?_)
    · skip
      refine J_goto (tgt := 964) dL_law_394 (by decide) ?_
      refine jJ.mono (ls' := [some (.ref 0), some (.ref 1), some (.ref 116), some (.ref 146), some (vi i), none, none]) (lsub_ok (by repeat (first | exact trivial | refine ⟨rfl, ?_⟩))) (fun _ _ _ q => q) ?_
      exact ih _ _ _ _ _ A.2.1 hg2 (by omega)
    · have e := ecode_0 z
      have e2 := A.2.2.2 e
      have e3 := q3 e
      refine J_aload_n dL_law_382 rfl ?_
      refine J_iconst (v := Int32.ofInt 0) dL_law_383 (by decide) ?_
      refine L_lald dL_law_384 hg2.2.2.2 ?_
      refine J_iload dL_law_385 rfl ?_
      refine J_i2l dL_law_387 ?_
      refine L_lcmp (tgt := 394) dL_law_388 dL_law_389 (by decide) (by rw [e3, e2]) ?_
      refine J_goto (tgt := 964) dL_law_394 (by decide) ?_
      refine jJ.mono (ls' := [some (.ref 0), some (.ref 1), some (.ref 116), some (.ref 146), some (vi i), none, none]) (lsub_ok (by repeat (first | exact trivial | refine ⟨rfl, ?_⟩))) (fun _ _ _ q => q) ?_
      exact ih _ _ _ _ _ A.2.1 hg2 (by omega)
  · skip
    refine J_iconst (v := Int32.ofInt 1) dL_law_317 (by decide) ?_
    refine J_goto (tgt := 322) dL_law_318 (by decide) ?_
    refine J_aload_n dL_law_322 rfl ?_
    refine J_iload dL_law_323 rfl ?_
    refine J_iconst (v := Int32.ofInt 3) dL_law_325 (by decide) ?_
    refine L_iadd dL_law_326 ?_
    refine L_sald dL_law_327 hg.2.2.1 (by omega) (by omega) g3 ?_
    refine J_aload_n dL_law_328 rfl ?_
    have A := B t1 1 t3 r1 (by omega) (by omega) r3
    refine J_callSW (As := [.ref 1, vi t1, vi 1, vi t3, .ref 146]) (bc := fu) (bs := 6 * fu) (bc' := 1) (bs' := 6) (d' := 7) dL_law_329 s_L_83 rfl (Nat.le_of_ble_eq_true rfl) (by omega) (Nat.le_of_ble_eq_true rfl) (H_open hr.1 hr.hdp hn hg r1 (by omega) r3 A.1) (fun E n' h' q => by cases q.1) (fun v' n' h' q => ?_)
    obtain ⟨q1, q2, ov2, hq, q3⟩ := q
    cases Sum.inl.inj q1
    simp only [Option.toList, List.cons_append, List.nil_append]
    refine J_istore dL_law_332 (by decide) rfl ?_
    refine J_aload_n dL_law_334 rfl ?_
    refine J_aload_n dL_law_335 rfl ?_
    refine J_iload dL_law_336 rfl ?_
    refine J_iconst (v := Int32.ofInt 1) dL_law_338 (by decide) ?_
    refine L_iadd dL_law_339 ?_
    refine L_sald dL_law_340 hq.2.2.1 (by omega) (by omega) g1 ?_
    refine J_aload_n dL_law_341 rfl ?_
    refine J_iload dL_law_342 rfl ?_
    refine J_iconst (v := Int32.ofInt 2) dL_law_344 (by decide) ?_
    refine L_iadd dL_law_345 ?_
    refine L_sald dL_law_346 hq.2.2.1 (by omega) (by omega) g2 ?_
    refine L_if_eq (tgt := 354) dL_law_347 (by decide) r2 (fun z9 => absurd z9 z0) (fun _ => ?_)
    refine J_iconst (v := Int32.ofInt 1) dL_law_350 (by decide) ?_
    refine J_goto (tgt := 355) dL_law_351 (by decide) ?_
    refine J_aload_n dL_law_355 rfl ?_
    refine J_iload dL_law_356 rfl ?_
    refine J_iconst (v := Int32.ofInt 3) dL_law_358 (by decide) ?_
    refine L_iadd dL_law_359 ?_
    refine L_sald dL_law_360 hq.2.2.1 (by omega) (by omega) g3 ?_
    refine L_mod (As := [vi t1, vi 1, vi t3]) (d' := 2) dL_law_361 v_L_86 (t_mopen hr.2.1 (by omega) r1 (by omega) r3 hr.hx) hq rfl (Nat.le_of_ble_eq_true rfl) (by omega) (Nat.le_of_ble_eq_true rfl) (fun h' hg1 => ?_)
    simp only [Option.toList, List.cons_append, List.nil_append]
    refine J_istore dL_law_364 (by decide) rfl ?_
    refine J_aload_n dL_law_366 rfl ?_
    refine L_mod (As := []) (d' := 0) dL_law_367 v_L_80 (t_mthrown A.2.1.2.1 (by omega)) hg1 rfl (Nat.le_of_ble_eq_true rfl) (by omega) (Nat.le_of_ble_eq_true rfl) (fun h' hg2 => ?_)
    simp only [Option.toList, List.cons_append, List.nil_append]
    refine J_iload dL_law_370 rfl ?_
    refine L_cmp (tgt := 377) dL_law_372 (by decide) A.2.2.1 ?_
    refine J_iload dL_law_377 rfl ?_
    refine L_if_ne (tgt := 394) dL_law_379 (by decide) ecode_rg (fun z => ?_) (fun z => ?_)
    · skip
      refine J_goto (tgt := 964) dL_law_394 (by decide) ?_
      refine jJ.mono (ls' := [some (.ref 0), some (.ref 1), some (.ref 116), some (.ref 146), some (vi i), none, none]) (lsub_ok (by repeat (first | exact trivial | refine ⟨rfl, ?_⟩))) (fun _ _ _ q => q) ?_
      exact ih _ _ _ _ _ A.2.1 hg2 (by omega)
    · have e := ecode_0 z
      have e2 := A.2.2.2 e
      have e3 := q3 e
      refine J_aload_n dL_law_382 rfl ?_
      refine J_iconst (v := Int32.ofInt 0) dL_law_383 (by decide) ?_
      refine L_lald dL_law_384 hg2.2.2.2 ?_
      refine J_iload dL_law_385 rfl ?_
      refine J_i2l dL_law_387 ?_
      refine L_lcmp (tgt := 394) dL_law_388 dL_law_389 (by decide) (by rw [e3, e2]) ?_
      refine J_goto (tgt := 964) dL_law_394 (by decide) ?_
      refine jJ.mono (ls' := [some (.ref 0), some (.ref 1), some (.ref 116), some (.ref 146), some (vi i), none, none]) (lsub_ok (by repeat (first | exact trivial | refine ⟨rfl, ?_⟩))) (fun _ _ _ q => q) ?_
      exact ih _ _ _ _ _ A.2.1 hg2 (by omega)
theorem op_close {l : Launch} {G : jG} {xs : List Int32} {ov : Int64} {σ : cS} {μ : mS} {n : Nat} {h : jH} {fu : Nat} {i t1 t2 t3 t4 : Int} (hb : BIS) (hr : R σ μ) (hg : GI xs ov σ μ h) (hn : 147 ≤ n) (hi : 0 ≤ i ∧ i ≤ 3000) (g1 : (xs.map Value.int)[(i + 1).toNat]? = some (vi t1)) (g2 : (xs.map Value.int)[(i + 2).toNat]? = some (vi t2)) (g3 : (xs.map Value.int)[(i + 3).toNat]? = some (vi t3)) (g4 : (xs.map Value.int)[(i + 4).toNat]? = some (vi t4)) (r1 : rg t1) (r2 : rg t2) (r3 : rg t3) (r4 : rg t4) (ih : ∀ (σ : cS) (μ : mS) (n : Nat) (h : jH) (ov : Int64), R σ μ → GI xs ov σ μ h → 147 ≤ n → jJ l G (YL, []) 11 fu (6 * fu) n 964 [some (.ref 0), some (.ref 1), some (.ref 116), some (.ref 146), some (vi i), none, none] [] h (fun o _ _ => o = .inl (some (.int 1)))) : jJ l G (YL, []) 11 (fu + 1) (6 * fu + 6) n 397 [some (.ref 0), some (.ref 1), some (.ref 116), some (.ref 146), some (vi i), none, none] [] h (fun o _ _ => o = .inl (some (.int 1))) := by
  have B := (hb σ μ hr).2.2.2.2.2.2.1
  refine J_aload_n dL_law_397 rfl ?_
  refine J_aload_n dL_law_398 rfl ?_
  refine J_iload dL_law_399 rfl ?_
  refine J_iconst (v := Int32.ofInt 1) dL_law_401 (by decide) ?_
  refine L_iadd dL_law_402 ?_
  refine L_sald dL_law_403 hg.2.2.1 (by omega) (by omega) g1 ?_
  refine J_aload_n dL_law_404 rfl ?_
  have A := B t1 r1
  refine J_callSW (As := [.ref 1, vi t1, .ref 146]) (bc := fu) (bs := 6 * fu) (bc' := 1) (bs' := 6) (d' := 7) dL_law_405 s_L_87 rfl (Nat.le_of_ble_eq_true rfl) (by omega) (Nat.le_of_ble_eq_true rfl) (H_close hr.1 hr.hdp hn hg r1 A.1) (fun E n' h' q => by cases q.1) (fun v' n' h' q => ?_)
  obtain ⟨q1, q2, ov2, hq, q3⟩ := q
  cases Sum.inl.inj q1
  simp only [Option.toList, List.cons_append, List.nil_append]
  refine J_istore dL_law_408 (by decide) rfl ?_
  refine J_aload_n dL_law_410 rfl ?_
  refine J_aload_n dL_law_411 rfl ?_
  refine J_iload dL_law_412 rfl ?_
  refine J_iconst (v := Int32.ofInt 1) dL_law_414 (by decide) ?_
  refine L_iadd dL_law_415 ?_
  refine L_sald dL_law_416 hq.2.2.1 (by omega) (by omega) g1 ?_
  refine L_mod (As := [vi t1]) (d' := 2) dL_law_417 v_L_90 (t_mclose hr.2.1 (by omega) r1) hq rfl (Nat.le_of_ble_eq_true rfl) (by omega) (Nat.le_of_ble_eq_true rfl) (fun h' hg1 => ?_)
  simp only [Option.toList, List.cons_append, List.nil_append]
  refine J_istore dL_law_420 (by decide) rfl ?_
  refine J_aload_n dL_law_422 rfl ?_
  refine L_mod (As := []) (d' := 0) dL_law_423 v_L_80 (t_mthrown A.2.1.2.1 (by omega)) hg1 rfl (Nat.le_of_ble_eq_true rfl) (by omega) (Nat.le_of_ble_eq_true rfl) (fun h' hg2 => ?_)
  simp only [Option.toList, List.cons_append, List.nil_append]
  refine J_iload dL_law_426 rfl ?_
  refine L_cmp (tgt := 433) dL_law_428 (by decide) A.2.2.1 ?_
  refine J_iload dL_law_433 rfl ?_
  refine L_if_ne (tgt := 457) dL_law_435 (by decide) ecode_rg (fun z => ?_) (fun z => ?_)
  · skip
    refine J_goto (tgt := 964) dL_law_457 (by decide) ?_
    refine jJ.mono (ls' := [some (.ref 0), some (.ref 1), some (.ref 116), some (.ref 146), some (vi i), none, none]) (lsub_ok (by repeat (first | exact trivial | refine ⟨rfl, ?_⟩))) (fun _ _ _ q => q) ?_
    exact ih _ _ _ _ _ A.2.1 hg2 (by omega)
  · have e := ecode_0 z
    have e2 := A.2.2.2 e
    have e3 := q3 e
    refine J_aload_n dL_law_438 rfl ?_
    refine J_iconst (v := Int32.ofInt 0) dL_law_439 (by decide) ?_
    refine L_lald dL_law_440 hg2.2.2.2 ?_
    refine J_iload dL_law_441 rfl ?_
    refine L_if_eq (tgt := 450) dL_law_443 (by decide) (bz_rg _) (fun z => ?_) (fun z => ?_)
    · skip
      refine J_lconst (v := 0) dL_law_450 (by decide) ?_
      refine L_lcmp (tgt := 457) dL_law_451 dL_law_452 (by decide) (by rw [e3, e2, if_pos z]) ?_
      refine J_goto (tgt := 964) dL_law_457 (by decide) ?_
      refine jJ.mono (ls' := [some (.ref 0), some (.ref 1), some (.ref 116), some (.ref 146), some (vi i), none, none]) (lsub_ok (by repeat (first | exact trivial | refine ⟨rfl, ?_⟩))) (fun _ _ _ q => q) ?_
      exact ih _ _ _ _ _ A.2.1 hg2 (by omega)
    · skip
      refine J_lconst (v := 1) dL_law_446 (by decide) ?_
      refine J_goto (tgt := 451) dL_law_447 (by decide) ?_
      refine L_lcmp (tgt := 457) dL_law_451 dL_law_452 (by decide) (by rw [e3, e2, if_neg z]) ?_
      refine J_goto (tgt := 964) dL_law_457 (by decide) ?_
      refine jJ.mono (ls' := [some (.ref 0), some (.ref 1), some (.ref 116), some (.ref 146), some (vi i), none, none]) (lsub_ok (by repeat (first | exact trivial | refine ⟨rfl, ?_⟩))) (fun _ _ _ q => q) ?_
      exact ih _ _ _ _ _ A.2.1 hg2 (by omega)
theorem op_clear {l : Launch} {G : jG} {xs : List Int32} {ov : Int64} {σ : cS} {μ : mS} {n : Nat} {h : jH} {fu : Nat} {i t1 t2 t3 t4 : Int} (hb : BIS) (hr : R σ μ) (hg : GI xs ov σ μ h) (hn : 147 ≤ n) (hi : 0 ≤ i ∧ i ≤ 3000) (g1 : (xs.map Value.int)[(i + 1).toNat]? = some (vi t1)) (g2 : (xs.map Value.int)[(i + 2).toNat]? = some (vi t2)) (g3 : (xs.map Value.int)[(i + 3).toNat]? = some (vi t3)) (g4 : (xs.map Value.int)[(i + 4).toNat]? = some (vi t4)) (r1 : rg t1) (r2 : rg t2) (r3 : rg t3) (r4 : rg t4) (ih : ∀ (σ : cS) (μ : mS) (n : Nat) (h : jH) (ov : Int64), R σ μ → GI xs ov σ μ h → 147 ≤ n → jJ l G (YL, []) 11 fu (6 * fu) n 964 [some (.ref 0), some (.ref 1), some (.ref 116), some (.ref 146), some (vi i), none, none] [] h (fun o _ _ => o = .inl (some (.int 1)))) : jJ l G (YL, []) 11 (fu + 1) (6 * fu + 6) n 460 [some (.ref 0), some (.ref 1), some (.ref 116), some (.ref 146), some (vi i), none, none] [] h (fun o _ _ => o = .inl (some (.int 1))) := by
  have B := (hb σ μ hr).2.2.2.2.2.2.2.1
  refine J_aload_n dL_law_460 rfl ?_
  refine J_aload_n dL_law_461 rfl ?_
  refine J_iload dL_law_462 rfl ?_
  refine J_iconst (v := Int32.ofInt 1) dL_law_464 (by decide) ?_
  refine L_iadd dL_law_465 ?_
  refine L_sald dL_law_466 hg.2.2.1 (by omega) (by omega) g1 ?_
  refine J_aload_n dL_law_467 rfl ?_
  have A := B t1 r1
  refine J_callSW (As := [.ref 1, vi t1, .ref 146]) (bc := fu) (bs := 6 * fu) (bc' := 1) (bs' := 6) (d' := 7) dL_law_468 s_L_91 rfl (Nat.le_of_ble_eq_true rfl) (by omega) (Nat.le_of_ble_eq_true rfl) (H_clear hr.1 hr.hdp hn hg r1 A.1) (fun E n' h' q => by cases q.1) (fun v' n' h' q => ?_)
  obtain ⟨q1, q2, ov2, hq, q3⟩ := q
  cases Sum.inl.inj q1
  simp only [Option.toList, List.cons_append, List.nil_append]
  refine J_istore dL_law_471 (by decide) rfl ?_
  refine J_aload_n dL_law_473 rfl ?_
  refine J_aload_n dL_law_474 rfl ?_
  refine J_iload dL_law_475 rfl ?_
  refine J_iconst (v := Int32.ofInt 1) dL_law_477 (by decide) ?_
  refine L_iadd dL_law_478 ?_
  refine L_sald dL_law_479 hq.2.2.1 (by omega) (by omega) g1 ?_
  refine L_mod (As := [vi t1]) (d' := 1) dL_law_480 v_L_93 (t_mclear hr.2.1 (by omega) r1) hq rfl (Nat.le_of_ble_eq_true rfl) (by omega) (Nat.le_of_ble_eq_true rfl) (fun h' hg1 => ?_)
  simp only [Option.toList, List.cons_append, List.nil_append]
  refine J_istore dL_law_483 (by decide) rfl ?_
  refine J_aload_n dL_law_485 rfl ?_
  refine L_mod (As := []) (d' := 0) dL_law_486 v_L_80 (t_mthrown A.2.1.2.1 (by omega)) hg1 rfl (Nat.le_of_ble_eq_true rfl) (by omega) (Nat.le_of_ble_eq_true rfl) (fun h' hg2 => ?_)
  simp only [Option.toList, List.cons_append, List.nil_append]
  refine J_iload dL_law_489 rfl ?_
  refine L_cmp (tgt := 496) dL_law_491 (by decide) A.2.2.1 ?_
  refine J_iload dL_law_496 rfl ?_
  refine L_if_ne (tgt := 520) dL_law_498 (by decide) ecode_rg (fun z => ?_) (fun z => ?_)
  · skip
    refine J_goto (tgt := 964) dL_law_520 (by decide) ?_
    refine jJ.mono (ls' := [some (.ref 0), some (.ref 1), some (.ref 116), some (.ref 146), some (vi i), none, none]) (lsub_ok (by repeat (first | exact trivial | refine ⟨rfl, ?_⟩))) (fun _ _ _ q => q) ?_
    exact ih _ _ _ _ _ A.2.1 hg2 (by omega)
  · have e := ecode_0 z
    have e2 := A.2.2.2 e
    have e3 := q3 e
    refine J_aload_n dL_law_501 rfl ?_
    refine J_iconst (v := Int32.ofInt 0) dL_law_502 (by decide) ?_
    refine L_lald dL_law_503 hg2.2.2.2 ?_
    refine J_iload dL_law_504 rfl ?_
    refine L_if_eq (tgt := 513) dL_law_506 (by decide) (bz_rg _) (fun z => ?_) (fun z => ?_)
    · skip
      refine J_lconst (v := 0) dL_law_513 (by decide) ?_
      refine L_lcmp (tgt := 520) dL_law_514 dL_law_515 (by decide) (by rw [e3, e2, if_pos z]) ?_
      refine J_goto (tgt := 964) dL_law_520 (by decide) ?_
      refine jJ.mono (ls' := [some (.ref 0), some (.ref 1), some (.ref 116), some (.ref 146), some (vi i), none, none]) (lsub_ok (by repeat (first | exact trivial | refine ⟨rfl, ?_⟩))) (fun _ _ _ q => q) ?_
      exact ih _ _ _ _ _ A.2.1 hg2 (by omega)
    · skip
      refine J_lconst (v := 1) dL_law_509 (by decide) ?_
      refine J_goto (tgt := 514) dL_law_510 (by decide) ?_
      refine L_lcmp (tgt := 520) dL_law_514 dL_law_515 (by decide) (by rw [e3, e2, if_neg z]) ?_
      refine J_goto (tgt := 964) dL_law_520 (by decide) ?_
      refine jJ.mono (ls' := [some (.ref 0), some (.ref 1), some (.ref 116), some (.ref 146), some (vi i), none, none]) (lsub_ok (by repeat (first | exact trivial | refine ⟨rfl, ?_⟩))) (fun _ _ _ q => q) ?_
      exact ih _ _ _ _ _ A.2.1 hg2 (by omega)
theorem op_read {l : Launch} {G : jG} {xs : List Int32} {ov : Int64} {σ : cS} {μ : mS} {n : Nat} {h : jH} {fu : Nat} {i t1 t2 t3 t4 : Int} (hb : BIS) (hr : R σ μ) (hg : GI xs ov σ μ h) (hn : 147 ≤ n) (hi : 0 ≤ i ∧ i ≤ 3000) (g1 : (xs.map Value.int)[(i + 1).toNat]? = some (vi t1)) (g2 : (xs.map Value.int)[(i + 2).toNat]? = some (vi t2)) (g3 : (xs.map Value.int)[(i + 3).toNat]? = some (vi t3)) (g4 : (xs.map Value.int)[(i + 4).toNat]? = some (vi t4)) (r1 : rg t1) (r2 : rg t2) (r3 : rg t3) (r4 : rg t4) (ih : ∀ (σ : cS) (μ : mS) (n : Nat) (h : jH) (ov : Int64), R σ μ → GI xs ov σ μ h → 147 ≤ n → jJ l G (YL, []) 11 fu (6 * fu) n 964 [some (.ref 0), some (.ref 1), some (.ref 116), some (.ref 146), some (vi i), none, none] [] h (fun o _ _ => o = .inl (some (.int 1)))) : jJ l G (YL, []) 11 (fu + 1) (6 * fu + 6) n 523 [some (.ref 0), some (.ref 1), some (.ref 116), some (.ref 146), some (vi i), none, none] [] h (fun o _ _ => o = .inl (some (.int 1))) := by
  have B := (hb σ μ hr).2.2.2.2.2.2.2.2.2.2.2.2.2.2
  refine J_aload_n dL_law_523 rfl ?_
  refine J_aload_n dL_law_524 rfl ?_
  have A := B.2 
  refine J_callSW (As := [.ref 1, .ref 146]) (bc := fu) (bs := 6 * fu) (bc' := 1) (bs' := 6) (d' := 7) dL_law_525 s_L_94 rfl (Nat.le_of_ble_eq_true rfl) (by omega) (Nat.le_of_ble_eq_true rfl) (H_read hr.1 hr.hdp hn hg  A.1) (fun E n' h' q => by cases q.1) (fun v' n' h' q => ?_)
  obtain ⟨q1, q2, ov2, hq, q3⟩ := q
  cases Sum.inl.inj q1
  simp only [Option.toList, List.cons_append, List.nil_append]
  refine J_istore dL_law_528 (by decide) rfl ?_
  refine J_aload_n dL_law_530 rfl ?_
  refine L_mod (As := []) (d' := 4) dL_law_531 v_L_97 (t_mread hr.2.1 (by omega)  hr.hT B.1) hq rfl (Nat.le_of_ble_eq_true rfl) (by omega) (Nat.le_of_ble_eq_true rfl) (fun h' hg1 => ?_)
  simp only [Option.toList, List.cons_append, List.nil_append]
  refine J_istore dL_law_534 (by decide) rfl ?_
  refine J_aload_n dL_law_536 rfl ?_
  refine L_mod (As := []) (d' := 0) dL_law_537 v_L_80 (t_mthrown A.2.1.2.1 (by omega)) hg1 rfl (Nat.le_of_ble_eq_true rfl) (by omega) (Nat.le_of_ble_eq_true rfl) (fun h' hg2 => ?_)
  simp only [Option.toList, List.cons_append, List.nil_append]
  refine J_iload dL_law_540 rfl ?_
  refine L_cmp (tgt := 547) dL_law_542 (by decide) A.2.2.1 ?_
  refine J_iload dL_law_547 rfl ?_
  refine L_if_ne (tgt := 564) dL_law_549 (by decide) ecode_rg (fun z => ?_) (fun z => ?_)
  · skip
    refine J_goto (tgt := 964) dL_law_564 (by decide) ?_
    refine jJ.mono (ls' := [some (.ref 0), some (.ref 1), some (.ref 116), some (.ref 146), some (vi i), none, none]) (lsub_ok (by repeat (first | exact trivial | refine ⟨rfl, ?_⟩))) (fun _ _ _ q => q) ?_
    exact ih _ _ _ _ _ A.2.1 hg2 (by omega)
  · have e := ecode_0 z
    have e2 := A.2.2.2 e
    have e3 := q3 e
    refine J_aload_n dL_law_552 rfl ?_
    refine J_iconst (v := Int32.ofInt 0) dL_law_553 (by decide) ?_
    refine L_lald dL_law_554 hg2.2.2.2 ?_
    refine J_iload dL_law_555 rfl ?_
    refine J_i2l dL_law_557 ?_
    refine L_lcmp (tgt := 564) dL_law_558 dL_law_559 (by decide) (by rw [e3, e2]) ?_
    refine J_goto (tgt := 964) dL_law_564 (by decide) ?_
    refine jJ.mono (ls' := [some (.ref 0), some (.ref 1), some (.ref 116), some (.ref 146), some (vi i), none, none]) (lsub_ok (by repeat (first | exact trivial | refine ⟨rfl, ?_⟩))) (fun _ _ _ q => q) ?_
    exact ih _ _ _ _ _ A.2.1 hg2 (by omega)
theorem op_fault {l : Launch} {G : jG} {xs : List Int32} {ov : Int64} {σ : cS} {μ : mS} {n : Nat} {h : jH} {fu : Nat} {i t1 t2 t3 t4 : Int} (hb : BIS) (hr : R σ μ) (hg : GI xs ov σ μ h) (hn : 147 ≤ n) (hi : 0 ≤ i ∧ i ≤ 3000) (g1 : (xs.map Value.int)[(i + 1).toNat]? = some (vi t1)) (g2 : (xs.map Value.int)[(i + 2).toNat]? = some (vi t2)) (g3 : (xs.map Value.int)[(i + 3).toNat]? = some (vi t3)) (g4 : (xs.map Value.int)[(i + 4).toNat]? = some (vi t4)) (r1 : rg t1) (r2 : rg t2) (r3 : rg t3) (r4 : rg t4) (ih : ∀ (σ : cS) (μ : mS) (n : Nat) (h : jH) (ov : Int64), R σ μ → GI xs ov σ μ h → 147 ≤ n → jJ l G (YL, []) 11 fu (6 * fu) n 964 [some (.ref 0), some (.ref 1), some (.ref 116), some (.ref 146), some (vi i), none, none] [] h (fun o _ _ => o = .inl (some (.int 1)))) : jJ l G (YL, []) 11 (fu + 1) (6 * fu + 6) n 567 [some (.ref 0), some (.ref 1), some (.ref 116), some (.ref 146), some (vi i), none, none] [] h (fun o _ _ => o = .inl (some (.int 1))) := by
  have B := (hb σ μ hr).2.2.2.1
  refine J_aload_n dL_law_567 rfl ?_
  refine L_cls (As := []) (d' := 2) dL_law_568 v_L_98 (t_fault hr.1 (by omega)) hg rfl (Nat.le_of_ble_eq_true rfl) (by omega) (Nat.le_of_ble_eq_true rfl) (fun h' hg1 => ?_)
  simp only [Option.toList, List.cons_append, List.nil_append]
  refine J_aload_n dL_law_571 rfl ?_
  refine L_mod (As := []) (d' := 0) dL_law_572 v_L_101 (t_mfault hr.2.1 (by omega) ) hg1 rfl (Nat.le_of_ble_eq_true rfl) (by omega) (Nat.le_of_ble_eq_true rfl) (fun h' hg2 => ?_)
  simp only [Option.toList, List.cons_append, List.nil_append]
  refine L_cmp (tgt := 964) dL_law_575 (by decide) B.1 ?_
  refine jJ.widen (d' := 11) (bc' := fu) (bs' := 6 * fu) (Nat.le_refl _) (by omega) (by omega) ?_
  refine jJ.mono (ls' := [some (.ref 0), some (.ref 1), some (.ref 116), some (.ref 146), some (vi i), none, none]) (lsub_ok (by repeat (first | exact trivial | refine ⟨rfl, ?_⟩))) (fun _ _ _ q => q) ?_
  exact ih _ _ _ _ _ B.2 hg2 (by omega)
theorem op_interchange {l : Launch} {G : jG} {xs : List Int32} {ov : Int64} {σ : cS} {μ : mS} {n : Nat} {h : jH} {fu : Nat} {i t1 t2 t3 t4 : Int} (hb : BIS) (hr : R σ μ) (hg : GI xs ov σ μ h) (hn : 147 ≤ n) (hi : 0 ≤ i ∧ i ≤ 3000) (g1 : (xs.map Value.int)[(i + 1).toNat]? = some (vi t1)) (g2 : (xs.map Value.int)[(i + 2).toNat]? = some (vi t2)) (g3 : (xs.map Value.int)[(i + 3).toNat]? = some (vi t3)) (g4 : (xs.map Value.int)[(i + 4).toNat]? = some (vi t4)) (r1 : rg t1) (r2 : rg t2) (r3 : rg t3) (r4 : rg t4) (ih : ∀ (σ : cS) (μ : mS) (n : Nat) (h : jH) (ov : Int64), R σ μ → GI xs ov σ μ h → 147 ≤ n → jJ l G (YL, []) 11 fu (6 * fu) n 964 [some (.ref 0), some (.ref 1), some (.ref 116), some (.ref 146), some (vi i), none, none] [] h (fun o _ _ => o = .inl (some (.int 1)))) : jJ l G (YL, []) 11 (fu + 1) (6 * fu + 6) n 580 [some (.ref 0), some (.ref 1), some (.ref 116), some (.ref 146), some (vi i), none, none] [] h (fun o _ _ => o = .inl (some (.int 1))) := by
  have B := (hb σ μ hr).2.2.2.2.2.2.2.2.1
  refine J_aload_n dL_law_580 rfl ?_
  refine J_aload_n dL_law_581 rfl ?_
  refine J_iload dL_law_582 rfl ?_
  refine J_iconst (v := Int32.ofInt 1) dL_law_584 (by decide) ?_
  refine L_iadd dL_law_585 ?_
  refine L_sald dL_law_586 hg.2.2.1 (by omega) (by omega) g1 ?_
  refine J_aload_n dL_law_587 rfl ?_
  have A := B t1 r1
  refine J_callSW (As := [.ref 1, vi t1, .ref 146]) (bc := fu) (bs := 6 * fu) (bc' := 1) (bs' := 6) (d' := 8) dL_law_588 s_L_102 rfl (Nat.le_of_ble_eq_true rfl) (by omega) (Nat.le_of_ble_eq_true rfl) (H_interchange hr.1 hr.hdp hn hg r1 A.1) (fun E n' h' q => by cases q.1) (fun v' n' h' q => ?_)
  obtain ⟨q1, q2, ov2, hq, q3⟩ := q
  cases Sum.inl.inj q1
  simp only [Option.toList, List.cons_append, List.nil_append]
  refine J_istore dL_law_591 (by decide) rfl ?_
  refine J_aload_n dL_law_593 rfl ?_
  refine J_aload_n dL_law_594 rfl ?_
  refine J_iload dL_law_595 rfl ?_
  refine J_iconst (v := Int32.ofInt 1) dL_law_597 (by decide) ?_
  refine L_iadd dL_law_598 ?_
  refine L_sald dL_law_599 hq.2.2.1 (by omega) (by omega) g1 ?_
  refine L_mod (As := [vi t1]) (d' := 0) dL_law_600 v_L_104 (t_minterchange hr.2.1 (by omega) r1) hq rfl (Nat.le_of_ble_eq_true rfl) (by omega) (Nat.le_of_ble_eq_true rfl) (fun h' hg1 => ?_)
  simp only [Option.toList, List.cons_append, List.nil_append]
  refine J_istore dL_law_603 (by decide) rfl ?_
  refine J_aload_n dL_law_605 rfl ?_
  refine L_mod (As := []) (d' := 0) dL_law_606 v_L_80 (t_mthrown A.2.1.2.1 (by omega)) hg1 rfl (Nat.le_of_ble_eq_true rfl) (by omega) (Nat.le_of_ble_eq_true rfl) (fun h' hg2 => ?_)
  simp only [Option.toList, List.cons_append, List.nil_append]
  refine J_iload dL_law_609 rfl ?_
  refine L_cmp (tgt := 616) dL_law_611 (by decide) A.2.2.1 ?_
  refine J_iload dL_law_616 rfl ?_
  refine L_if_ne (tgt := 633) dL_law_618 (by decide) ecode_rg (fun z => ?_) (fun z => ?_)
  · skip
    refine J_goto (tgt := 964) dL_law_633 (by decide) ?_
    refine jJ.mono (ls' := [some (.ref 0), some (.ref 1), some (.ref 116), some (.ref 146), some (vi i), none, none]) (lsub_ok (by repeat (first | exact trivial | refine ⟨rfl, ?_⟩))) (fun _ _ _ q => q) ?_
    exact ih _ _ _ _ _ A.2.1 hg2 (by omega)
  · have e := ecode_0 z
    have e2 := A.2.2.2 e
    have e3 := q3 e
    refine J_aload_n dL_law_621 rfl ?_
    refine J_iconst (v := Int32.ofInt 0) dL_law_622 (by decide) ?_
    refine L_lald dL_law_623 hg2.2.2.2 ?_
    refine J_iload dL_law_624 rfl ?_
    refine J_i2l dL_law_626 ?_
    refine L_lcmp (tgt := 633) dL_law_627 dL_law_628 (by decide) (by rw [e3, e2]) ?_
    refine J_goto (tgt := 964) dL_law_633 (by decide) ?_
    refine jJ.mono (ls' := [some (.ref 0), some (.ref 1), some (.ref 116), some (.ref 146), some (vi i), none, none]) (lsub_ok (by repeat (first | exact trivial | refine ⟨rfl, ?_⟩))) (fun _ _ _ q => q) ?_
    exact ih _ _ _ _ _ A.2.1 hg2 (by omega)
theorem op_message {l : Launch} {G : jG} {xs : List Int32} {ov : Int64} {σ : cS} {μ : mS} {n : Nat} {h : jH} {fu : Nat} {i t1 t2 t3 t4 : Int} (hb : BIS) (hr : R σ μ) (hg : GI xs ov σ μ h) (hn : 147 ≤ n) (hi : 0 ≤ i ∧ i ≤ 3000) (g1 : (xs.map Value.int)[(i + 1).toNat]? = some (vi t1)) (g2 : (xs.map Value.int)[(i + 2).toNat]? = some (vi t2)) (g3 : (xs.map Value.int)[(i + 3).toNat]? = some (vi t3)) (g4 : (xs.map Value.int)[(i + 4).toNat]? = some (vi t4)) (r1 : rg t1) (r2 : rg t2) (r3 : rg t3) (r4 : rg t4) (ih : ∀ (σ : cS) (μ : mS) (n : Nat) (h : jH) (ov : Int64), R σ μ → GI xs ov σ μ h → 147 ≤ n → jJ l G (YL, []) 11 fu (6 * fu) n 964 [some (.ref 0), some (.ref 1), some (.ref 116), some (.ref 146), some (vi i), none, none] [] h (fun o _ _ => o = .inl (some (.int 1)))) : jJ l G (YL, []) 11 (fu + 1) (6 * fu + 6) n 636 [some (.ref 0), some (.ref 1), some (.ref 116), some (.ref 146), some (vi i), none, none] [] h (fun o _ _ => o = .inl (some (.int 1))) := by
  have B := (hb σ μ hr).2.2.2.2.2.2.2.2.2.1
  refine J_aload_n dL_law_636 rfl ?_
  refine J_aload_n dL_law_637 rfl ?_
  refine J_iload dL_law_638 rfl ?_
  refine J_iconst (v := Int32.ofInt 1) dL_law_640 (by decide) ?_
  refine L_iadd dL_law_641 ?_
  refine L_sald dL_law_642 hg.2.2.1 (by omega) (by omega) g1 ?_
  refine J_aload_n dL_law_643 rfl ?_
  refine J_iload dL_law_644 rfl ?_
  refine J_iconst (v := Int32.ofInt 2) dL_law_646 (by decide) ?_
  refine L_iadd dL_law_647 ?_
  refine L_sald dL_law_648 hg.2.2.1 (by omega) (by omega) g2 ?_
  refine J_aload_n dL_law_649 rfl ?_
  have A := B t1 t2 r1 r2
  refine J_callSW (As := [.ref 1, vi t1, vi t2, .ref 146]) (bc := fu) (bs := 6 * fu) (bc' := 1) (bs' := 6) (d' := 8) dL_law_650 s_L_105 rfl (Nat.le_of_ble_eq_true rfl) (by omega) (Nat.le_of_ble_eq_true rfl) (H_message hr.1 hr.hdp hn hg r1 r2 A.1) (fun E n' h' q => by cases q.1) (fun v' n' h' q => ?_)
  obtain ⟨q1, q2, ov2, hq, q3⟩ := q
  cases Sum.inl.inj q1
  simp only [Option.toList, List.cons_append, List.nil_append]
  refine J_istore dL_law_653 (by decide) rfl ?_
  refine J_aload_n dL_law_655 rfl ?_
  refine J_aload_n dL_law_656 rfl ?_
  refine J_iload dL_law_657 rfl ?_
  refine J_iconst (v := Int32.ofInt 1) dL_law_659 (by decide) ?_
  refine L_iadd dL_law_660 ?_
  refine L_sald dL_law_661 hq.2.2.1 (by omega) (by omega) g1 ?_
  refine J_aload_n dL_law_662 rfl ?_
  refine J_iload dL_law_663 rfl ?_
  refine J_iconst (v := Int32.ofInt 2) dL_law_665 (by decide) ?_
  refine L_iadd dL_law_666 ?_
  refine L_sald dL_law_667 hq.2.2.1 (by omega) (by omega) g2 ?_
  refine L_mod (As := [vi t1, vi t2]) (d' := 0) dL_law_668 v_L_108 (t_mmessage hr.2.1 (by omega) r1 r2) hq rfl (Nat.le_of_ble_eq_true rfl) (by omega) (Nat.le_of_ble_eq_true rfl) (fun h' hg1 => ?_)
  simp only [Option.toList, List.cons_append, List.nil_append]
  refine J_istore dL_law_671 (by decide) rfl ?_
  refine J_aload_n dL_law_673 rfl ?_
  refine L_mod (As := []) (d' := 0) dL_law_674 v_L_80 (t_mthrown A.2.1.2.1 (by omega)) hg1 rfl (Nat.le_of_ble_eq_true rfl) (by omega) (Nat.le_of_ble_eq_true rfl) (fun h' hg2 => ?_)
  simp only [Option.toList, List.cons_append, List.nil_append]
  refine J_iload dL_law_677 rfl ?_
  refine L_cmp (tgt := 684) dL_law_679 (by decide) A.2.2.1 ?_
  refine J_iload dL_law_684 rfl ?_
  refine L_if_ne (tgt := 701) dL_law_686 (by decide) ecode_rg (fun z => ?_) (fun z => ?_)
  · skip
    refine J_goto (tgt := 964) dL_law_701 (by decide) ?_
    refine jJ.mono (ls' := [some (.ref 0), some (.ref 1), some (.ref 116), some (.ref 146), some (vi i), none, none]) (lsub_ok (by repeat (first | exact trivial | refine ⟨rfl, ?_⟩))) (fun _ _ _ q => q) ?_
    exact ih _ _ _ _ _ A.2.1 hg2 (by omega)
  · have e := ecode_0 z
    have e2 := A.2.2.2 e
    have e3 := q3 e
    refine J_aload_n dL_law_689 rfl ?_
    refine J_iconst (v := Int32.ofInt 0) dL_law_690 (by decide) ?_
    refine L_lald dL_law_691 hg2.2.2.2 ?_
    refine J_iload dL_law_692 rfl ?_
    refine J_i2l dL_law_694 ?_
    refine L_lcmp (tgt := 701) dL_law_695 dL_law_696 (by decide) (by rw [e3, e2]) ?_
    refine J_goto (tgt := 964) dL_law_701 (by decide) ?_
    refine jJ.mono (ls' := [some (.ref 0), some (.ref 1), some (.ref 116), some (.ref 146), some (vi i), none, none]) (lsub_ok (by repeat (first | exact trivial | refine ⟨rfl, ?_⟩))) (fun _ _ _ q => q) ?_
    exact ih _ _ _ _ _ A.2.1 hg2 (by omega)
theorem op_group {l : Launch} {G : jG} {xs : List Int32} {ov : Int64} {σ : cS} {μ : mS} {n : Nat} {h : jH} {fu : Nat} {i t1 t2 t3 t4 : Int} (hb : BIS) (hr : R σ μ) (hg : GI xs ov σ μ h) (hn : 147 ≤ n) (hi : 0 ≤ i ∧ i ≤ 3000) (g1 : (xs.map Value.int)[(i + 1).toNat]? = some (vi t1)) (g2 : (xs.map Value.int)[(i + 2).toNat]? = some (vi t2)) (g3 : (xs.map Value.int)[(i + 3).toNat]? = some (vi t3)) (g4 : (xs.map Value.int)[(i + 4).toNat]? = some (vi t4)) (r1 : rg t1) (r2 : rg t2) (r3 : rg t3) (r4 : rg t4) (ih : ∀ (σ : cS) (μ : mS) (n : Nat) (h : jH) (ov : Int64), R σ μ → GI xs ov σ μ h → 147 ≤ n → jJ l G (YL, []) 11 fu (6 * fu) n 964 [some (.ref 0), some (.ref 1), some (.ref 116), some (.ref 146), some (vi i), none, none] [] h (fun o _ _ => o = .inl (some (.int 1)))) : jJ l G (YL, []) 11 (fu + 1) (6 * fu + 6) n 704 [some (.ref 0), some (.ref 1), some (.ref 116), some (.ref 146), some (vi i), none, none] [] h (fun o _ _ => o = .inl (some (.int 1))) := by
  have B := (hb σ μ hr).2.2.2.2.2.2.2.2.2.2.1
  refine J_aload_n dL_law_704 rfl ?_
  refine J_aload_n dL_law_705 rfl ?_
  refine J_iload dL_law_706 rfl ?_
  refine J_iconst (v := Int32.ofInt 1) dL_law_708 (by decide) ?_
  refine L_iadd dL_law_709 ?_
  refine L_sald dL_law_710 hg.2.2.1 (by omega) (by omega) g1 ?_
  refine J_aload_n dL_law_711 rfl ?_
  have A := B t1 r1
  refine J_callSW (As := [.ref 1, vi t1, .ref 146]) (bc := fu) (bs := 6 * fu) (bc' := 1) (bs' := 6) (d' := 8) dL_law_712 s_L_109 rfl (Nat.le_of_ble_eq_true rfl) (by omega) (Nat.le_of_ble_eq_true rfl) (H_group hr.1 hr.hdp hn hg r1 A.1) (fun E n' h' q => by cases q.1) (fun v' n' h' q => ?_)
  obtain ⟨q1, q2, ov2, hq, q3⟩ := q
  cases Sum.inl.inj q1
  simp only [Option.toList, List.cons_append, List.nil_append]
  refine J_istore dL_law_715 (by decide) rfl ?_
  refine J_aload_n dL_law_717 rfl ?_
  refine J_aload_n dL_law_718 rfl ?_
  refine J_iload dL_law_719 rfl ?_
  refine J_iconst (v := Int32.ofInt 1) dL_law_721 (by decide) ?_
  refine L_iadd dL_law_722 ?_
  refine L_sald dL_law_723 hq.2.2.1 (by omega) (by omega) g1 ?_
  refine L_mod (As := [vi t1]) (d' := 0) dL_law_724 v_L_111 (t_mgroup hr.2.1 (by omega) r1) hq rfl (Nat.le_of_ble_eq_true rfl) (by omega) (Nat.le_of_ble_eq_true rfl) (fun h' hg1 => ?_)
  simp only [Option.toList, List.cons_append, List.nil_append]
  refine J_istore dL_law_727 (by decide) rfl ?_
  refine J_aload_n dL_law_729 rfl ?_
  refine L_mod (As := []) (d' := 0) dL_law_730 v_L_80 (t_mthrown A.2.1.2.1 (by omega)) hg1 rfl (Nat.le_of_ble_eq_true rfl) (by omega) (Nat.le_of_ble_eq_true rfl) (fun h' hg2 => ?_)
  simp only [Option.toList, List.cons_append, List.nil_append]
  refine J_iload dL_law_733 rfl ?_
  refine L_cmp (tgt := 740) dL_law_735 (by decide) A.2.2.1 ?_
  refine J_iload dL_law_740 rfl ?_
  refine L_if_ne (tgt := 757) dL_law_742 (by decide) ecode_rg (fun z => ?_) (fun z => ?_)
  · skip
    refine J_goto (tgt := 964) dL_law_757 (by decide) ?_
    refine jJ.mono (ls' := [some (.ref 0), some (.ref 1), some (.ref 116), some (.ref 146), some (vi i), none, none]) (lsub_ok (by repeat (first | exact trivial | refine ⟨rfl, ?_⟩))) (fun _ _ _ q => q) ?_
    exact ih _ _ _ _ _ A.2.1 hg2 (by omega)
  · have e := ecode_0 z
    have e2 := A.2.2.2 e
    have e3 := q3 e
    refine J_aload_n dL_law_745 rfl ?_
    refine J_iconst (v := Int32.ofInt 0) dL_law_746 (by decide) ?_
    refine L_lald dL_law_747 hg2.2.2.2 ?_
    refine J_iload dL_law_748 rfl ?_
    refine J_i2l dL_law_750 ?_
    refine L_lcmp (tgt := 757) dL_law_751 dL_law_752 (by decide) (by rw [e3, e2]) ?_
    refine J_goto (tgt := 964) dL_law_757 (by decide) ?_
    refine jJ.mono (ls' := [some (.ref 0), some (.ref 1), some (.ref 116), some (.ref 146), some (vi i), none, none]) (lsub_ok (by repeat (first | exact trivial | refine ⟨rfl, ?_⟩))) (fun _ _ _ q => q) ?_
    exact ih _ _ _ _ _ A.2.1 hg2 (by omega)
theorem op_segment {l : Launch} {G : jG} {xs : List Int32} {ov : Int64} {σ : cS} {μ : mS} {n : Nat} {h : jH} {fu : Nat} {i t1 t2 t3 t4 : Int} (hb : BIS) (hr : R σ μ) (hg : GI xs ov σ μ h) (hn : 147 ≤ n) (hi : 0 ≤ i ∧ i ≤ 3000) (g1 : (xs.map Value.int)[(i + 1).toNat]? = some (vi t1)) (g2 : (xs.map Value.int)[(i + 2).toNat]? = some (vi t2)) (g3 : (xs.map Value.int)[(i + 3).toNat]? = some (vi t3)) (g4 : (xs.map Value.int)[(i + 4).toNat]? = some (vi t4)) (r1 : rg t1) (r2 : rg t2) (r3 : rg t3) (r4 : rg t4) (ih : ∀ (σ : cS) (μ : mS) (n : Nat) (h : jH) (ov : Int64), R σ μ → GI xs ov σ μ h → 147 ≤ n → jJ l G (YL, []) 11 fu (6 * fu) n 964 [some (.ref 0), some (.ref 1), some (.ref 116), some (.ref 146), some (vi i), none, none] [] h (fun o _ _ => o = .inl (some (.int 1)))) : jJ l G (YL, []) 11 (fu + 1) (6 * fu + 6) n 760 [some (.ref 0), some (.ref 1), some (.ref 116), some (.ref 146), some (vi i), none, none] [] h (fun o _ _ => o = .inl (some (.int 1))) := by
  have B := (hb σ μ hr).2.2.2.2.2.2.2.2.2.2.2.1
  refine J_aload_n dL_law_760 rfl ?_
  refine J_aload_n dL_law_761 rfl ?_
  refine J_iload dL_law_762 rfl ?_
  refine J_iconst (v := Int32.ofInt 1) dL_law_764 (by decide) ?_
  refine L_iadd dL_law_765 ?_
  refine L_sald dL_law_766 hg.2.2.1 (by omega) (by omega) g1 ?_
  refine J_aload_n dL_law_767 rfl ?_
  refine J_iload dL_law_768 rfl ?_
  refine J_iconst (v := Int32.ofInt 2) dL_law_770 (by decide) ?_
  refine L_iadd dL_law_771 ?_
  refine L_sald dL_law_772 hg.2.2.1 (by omega) (by omega) g2 ?_
  refine J_aload_n dL_law_773 rfl ?_
  refine J_iload dL_law_774 rfl ?_
  refine J_iconst (v := Int32.ofInt 3) dL_law_776 (by decide) ?_
  refine L_iadd dL_law_777 ?_
  refine L_sald dL_law_778 hg.2.2.1 (by omega) (by omega) g3 ?_
  refine J_aload_n dL_law_779 rfl ?_
  refine J_iload dL_law_780 rfl ?_
  refine J_iconst (v := Int32.ofInt 4) dL_law_782 (by decide) ?_
  refine L_iadd dL_law_783 ?_
  refine L_sald dL_law_784 hg.2.2.1 (by omega) (by omega) g4 ?_
  refine J_aload_n dL_law_785 rfl ?_
  have A := B t1 t2 t3 t4 r1 r2 r3 r4
  refine J_callSW (As := [.ref 1, vi t1, vi t2, vi t3, vi t4, .ref 146]) (bc := fu) (bs := 6 * fu) (bc' := 1) (bs' := 6) (d' := 8) dL_law_786 s_L_112 rfl (Nat.le_of_ble_eq_true rfl) (by omega) (Nat.le_of_ble_eq_true rfl) (H_segment hr.1 hr.hdp hn hg r1 r2 r3 r4 A.1) (fun E n' h' q => by cases q.1) (fun v' n' h' q => ?_)
  obtain ⟨q1, q2, ov2, hq, q3⟩ := q
  cases Sum.inl.inj q1
  simp only [Option.toList, List.cons_append, List.nil_append]
  refine J_istore dL_law_789 (by decide) rfl ?_
  refine J_aload_n dL_law_791 rfl ?_
  refine J_aload_n dL_law_792 rfl ?_
  refine J_iload dL_law_793 rfl ?_
  refine J_iconst (v := Int32.ofInt 1) dL_law_795 (by decide) ?_
  refine L_iadd dL_law_796 ?_
  refine L_sald dL_law_797 hq.2.2.1 (by omega) (by omega) g1 ?_
  refine J_aload_n dL_law_798 rfl ?_
  refine J_iload dL_law_799 rfl ?_
  refine J_iconst (v := Int32.ofInt 2) dL_law_801 (by decide) ?_
  refine L_iadd dL_law_802 ?_
  refine L_sald dL_law_803 hq.2.2.1 (by omega) (by omega) g2 ?_
  refine J_aload_n dL_law_804 rfl ?_
  refine J_iload dL_law_805 rfl ?_
  refine J_iconst (v := Int32.ofInt 3) dL_law_807 (by decide) ?_
  refine L_iadd dL_law_808 ?_
  refine L_sald dL_law_809 hq.2.2.1 (by omega) (by omega) g3 ?_
  refine J_aload_n dL_law_810 rfl ?_
  refine J_iload dL_law_811 rfl ?_
  refine J_iconst (v := Int32.ofInt 4) dL_law_813 (by decide) ?_
  refine L_iadd dL_law_814 ?_
  refine L_sald dL_law_815 hq.2.2.1 (by omega) (by omega) g4 ?_
  refine L_mod (As := [vi t1, vi t2, vi t3, vi t4]) (d' := 1) dL_law_816 v_L_115 (t_msegment hr.2.1 (by omega) r1 r2 r3 r4) hq rfl (Nat.le_of_ble_eq_true rfl) (by omega) (Nat.le_of_ble_eq_true rfl) (fun h' hg1 => ?_)
  simp only [Option.toList, List.cons_append, List.nil_append]
  refine J_istore dL_law_819 (by decide) rfl ?_
  refine J_aload_n dL_law_821 rfl ?_
  refine L_mod (As := []) (d' := 0) dL_law_822 v_L_80 (t_mthrown A.2.1.2.1 (by omega)) hg1 rfl (Nat.le_of_ble_eq_true rfl) (by omega) (Nat.le_of_ble_eq_true rfl) (fun h' hg2 => ?_)
  simp only [Option.toList, List.cons_append, List.nil_append]
  refine J_iload dL_law_825 rfl ?_
  refine L_cmp (tgt := 832) dL_law_827 (by decide) A.2.2.1 ?_
  refine J_iload dL_law_832 rfl ?_
  refine L_if_ne (tgt := 849) dL_law_834 (by decide) ecode_rg (fun z => ?_) (fun z => ?_)
  · skip
    refine J_goto (tgt := 964) dL_law_849 (by decide) ?_
    refine jJ.mono (ls' := [some (.ref 0), some (.ref 1), some (.ref 116), some (.ref 146), some (vi i), none, none]) (lsub_ok (by repeat (first | exact trivial | refine ⟨rfl, ?_⟩))) (fun _ _ _ q => q) ?_
    exact ih _ _ _ _ _ A.2.1 hg2 (by omega)
  · have e := ecode_0 z
    have e2 := A.2.2.2 e
    have e3 := q3 e
    refine J_aload_n dL_law_837 rfl ?_
    refine J_iconst (v := Int32.ofInt 0) dL_law_838 (by decide) ?_
    refine L_lald dL_law_839 hg2.2.2.2 ?_
    refine J_iload dL_law_840 rfl ?_
    refine J_i2l dL_law_842 ?_
    refine L_lcmp (tgt := 849) dL_law_843 dL_law_844 (by decide) (by rw [e3, e2]) ?_
    refine J_goto (tgt := 964) dL_law_849 (by decide) ?_
    refine jJ.mono (ls' := [some (.ref 0), some (.ref 1), some (.ref 116), some (.ref 146), some (vi i), none, none]) (lsub_ok (by repeat (first | exact trivial | refine ⟨rfl, ?_⟩))) (fun _ _ _ q => q) ?_
    exact ih _ _ _ _ _ A.2.1 hg2 (by omega)
theorem op_print {l : Launch} {G : jG} {xs : List Int32} {ov : Int64} {σ : cS} {μ : mS} {n : Nat} {h : jH} {fu : Nat} {i t1 t2 t3 t4 : Int} (hb : BIS) (hr : R σ μ) (hg : GI xs ov σ μ h) (hn : 147 ≤ n) (hi : 0 ≤ i ∧ i ≤ 3000) (g1 : (xs.map Value.int)[(i + 1).toNat]? = some (vi t1)) (g2 : (xs.map Value.int)[(i + 2).toNat]? = some (vi t2)) (g3 : (xs.map Value.int)[(i + 3).toNat]? = some (vi t3)) (g4 : (xs.map Value.int)[(i + 4).toNat]? = some (vi t4)) (r1 : rg t1) (r2 : rg t2) (r3 : rg t3) (r4 : rg t4) (ih : ∀ (σ : cS) (μ : mS) (n : Nat) (h : jH) (ov : Int64), R σ μ → GI xs ov σ μ h → 147 ≤ n → jJ l G (YL, []) 11 fu (6 * fu) n 964 [some (.ref 0), some (.ref 1), some (.ref 116), some (.ref 146), some (vi i), none, none] [] h (fun o _ _ => o = .inl (some (.int 1)))) : jJ l G (YL, []) 11 (fu + 1) (6 * fu + 6) n 852 [some (.ref 0), some (.ref 1), some (.ref 116), some (.ref 146), some (vi i), none, none] [] h (fun o _ _ => o = .inl (some (.int 1))) := by
  have B := (hb σ μ hr).2.2.2.2.2.2.2.2.2.2.2.2.1
  refine J_aload_n dL_law_852 rfl ?_
  refine J_aload_n dL_law_853 rfl ?_
  refine J_iload dL_law_854 rfl ?_
  refine J_iconst (v := Int32.ofInt 1) dL_law_856 (by decide) ?_
  refine L_iadd dL_law_857 ?_
  refine L_sald dL_law_858 hg.2.2.1 (by omega) (by omega) g1 ?_
  refine J_aload_n dL_law_859 rfl ?_
  have A := B t1 r1
  refine J_callSW (As := [.ref 1, vi t1, .ref 146]) (bc := fu) (bs := 6 * fu) (bc' := 1) (bs' := 6) (d' := 8) dL_law_860 s_L_116 rfl (Nat.le_of_ble_eq_true rfl) (by omega) (Nat.le_of_ble_eq_true rfl) (H_print hr.1 hr.hdp hn hg r1 A.1) (fun E n' h' q => by cases q.1) (fun v' n' h' q => ?_)
  obtain ⟨q1, q2, ov2, hq, q3⟩ := q
  cases Sum.inl.inj q1
  simp only [Option.toList, List.cons_append, List.nil_append]
  refine J_istore dL_law_863 (by decide) rfl ?_
  refine J_aload_n dL_law_865 rfl ?_
  refine J_aload_n dL_law_866 rfl ?_
  refine J_iload dL_law_867 rfl ?_
  refine J_iconst (v := Int32.ofInt 1) dL_law_869 (by decide) ?_
  refine L_iadd dL_law_870 ?_
  refine L_sald dL_law_871 hq.2.2.1 (by omega) (by omega) g1 ?_
  refine L_mod (As := [vi t1]) (d' := 0) dL_law_872 v_L_118 (t_mprint hr.2.1 (by omega) r1) hq rfl (Nat.le_of_ble_eq_true rfl) (by omega) (Nat.le_of_ble_eq_true rfl) (fun h' hg1 => ?_)
  simp only [Option.toList, List.cons_append, List.nil_append]
  refine J_istore dL_law_875 (by decide) rfl ?_
  refine J_aload_n dL_law_877 rfl ?_
  refine L_mod (As := []) (d' := 0) dL_law_878 v_L_80 (t_mthrown A.2.1.2.1 (by omega)) hg1 rfl (Nat.le_of_ble_eq_true rfl) (by omega) (Nat.le_of_ble_eq_true rfl) (fun h' hg2 => ?_)
  simp only [Option.toList, List.cons_append, List.nil_append]
  refine J_iload dL_law_881 rfl ?_
  refine L_cmp (tgt := 888) dL_law_883 (by decide) A.2.2.1 ?_
  refine J_iload dL_law_888 rfl ?_
  refine L_if_ne (tgt := 905) dL_law_890 (by decide) ecode_rg (fun z => ?_) (fun z => ?_)
  · skip
    refine J_goto (tgt := 964) dL_law_905 (by decide) ?_
    refine jJ.mono (ls' := [some (.ref 0), some (.ref 1), some (.ref 116), some (.ref 146), some (vi i), none, none]) (lsub_ok (by repeat (first | exact trivial | refine ⟨rfl, ?_⟩))) (fun _ _ _ q => q) ?_
    exact ih _ _ _ _ _ A.2.1 hg2 (by omega)
  · have e := ecode_0 z
    have e2 := A.2.2.2 e
    have e3 := q3 e
    refine J_aload_n dL_law_893 rfl ?_
    refine J_iconst (v := Int32.ofInt 0) dL_law_894 (by decide) ?_
    refine L_lald dL_law_895 hg2.2.2.2 ?_
    refine J_iload dL_law_896 rfl ?_
    refine J_i2l dL_law_898 ?_
    refine L_lcmp (tgt := 905) dL_law_899 dL_law_900 (by decide) (by rw [e3, e2]) ?_
    refine J_goto (tgt := 964) dL_law_905 (by decide) ?_
    refine jJ.mono (ls' := [some (.ref 0), some (.ref 1), some (.ref 116), some (.ref 146), some (vi i), none, none]) (lsub_ok (by repeat (first | exact trivial | refine ⟨rfl, ?_⟩))) (fun _ _ _ q => q) ?_
    exact ih _ _ _ _ _ A.2.1 hg2 (by omega)
theorem op_report {l : Launch} {G : jG} {xs : List Int32} {ov : Int64} {σ : cS} {μ : mS} {n : Nat} {h : jH} {fu : Nat} {i t1 t2 t3 t4 : Int} (hb : BIS) (hr : R σ μ) (hg : GI xs ov σ μ h) (hn : 147 ≤ n) (hi : 0 ≤ i ∧ i ≤ 3000) (g1 : (xs.map Value.int)[(i + 1).toNat]? = some (vi t1)) (g2 : (xs.map Value.int)[(i + 2).toNat]? = some (vi t2)) (g3 : (xs.map Value.int)[(i + 3).toNat]? = some (vi t3)) (g4 : (xs.map Value.int)[(i + 4).toNat]? = some (vi t4)) (r1 : rg t1) (r2 : rg t2) (r3 : rg t3) (r4 : rg t4) (ih : ∀ (σ : cS) (μ : mS) (n : Nat) (h : jH) (ov : Int64), R σ μ → GI xs ov σ μ h → 147 ≤ n → jJ l G (YL, []) 11 fu (6 * fu) n 964 [some (.ref 0), some (.ref 1), some (.ref 116), some (.ref 146), some (vi i), none, none] [] h (fun o _ _ => o = .inl (some (.int 1)))) : jJ l G (YL, []) 11 (fu + 1) (6 * fu + 6) n 908 [some (.ref 0), some (.ref 1), some (.ref 116), some (.ref 146), some (vi i), none, none] [] h (fun o _ _ => o = .inl (some (.int 1))) := by
  have B := (hb σ μ hr).2.2.2.2.2.2.2.2.2.2.2.2.2.1
  refine J_aload_n dL_law_908 rfl ?_
  refine J_aload_n dL_law_909 rfl ?_
  refine J_iload dL_law_910 rfl ?_
  refine J_iconst (v := Int32.ofInt 1) dL_law_912 (by decide) ?_
  refine L_iadd dL_law_913 ?_
  refine L_sald dL_law_914 hg.2.2.1 (by omega) (by omega) g1 ?_
  refine J_aload_n dL_law_915 rfl ?_
  have A := B t1 r1
  refine J_callSW (As := [.ref 1, vi t1, .ref 146]) (bc := fu) (bs := 6 * fu) (bc' := 1) (bs' := 6) (d' := 8) dL_law_916 s_L_119 rfl (Nat.le_of_ble_eq_true rfl) (by omega) (Nat.le_of_ble_eq_true rfl) (H_report hr.1 hr.hdp hn hg r1 A.1) (fun E n' h' q => by cases q.1) (fun v' n' h' q => ?_)
  obtain ⟨q1, q2, ov2, hq, q3⟩ := q
  cases Sum.inl.inj q1
  simp only [Option.toList, List.cons_append, List.nil_append]
  refine J_istore dL_law_919 (by decide) rfl ?_
  refine J_aload_n dL_law_921 rfl ?_
  refine J_aload_n dL_law_922 rfl ?_
  refine J_iload dL_law_923 rfl ?_
  refine J_iconst (v := Int32.ofInt 1) dL_law_925 (by decide) ?_
  refine L_iadd dL_law_926 ?_
  refine L_sald dL_law_927 hq.2.2.1 (by omega) (by omega) g1 ?_
  refine L_mod (As := [vi t1]) (d' := 0) dL_law_928 v_L_121 (t_mreport hr.2.1 (by omega) r1) hq rfl (Nat.le_of_ble_eq_true rfl) (by omega) (Nat.le_of_ble_eq_true rfl) (fun h' hg1 => ?_)
  simp only [Option.toList, List.cons_append, List.nil_append]
  refine J_istore dL_law_931 (by decide) rfl ?_
  refine J_aload_n dL_law_933 rfl ?_
  refine L_mod (As := []) (d' := 0) dL_law_934 v_L_80 (t_mthrown A.2.1.2.1 (by omega)) hg1 rfl (Nat.le_of_ble_eq_true rfl) (by omega) (Nat.le_of_ble_eq_true rfl) (fun h' hg2 => ?_)
  simp only [Option.toList, List.cons_append, List.nil_append]
  refine J_iload dL_law_937 rfl ?_
  refine L_cmp (tgt := 944) dL_law_939 (by decide) A.2.2.1 ?_
  refine J_iload dL_law_944 rfl ?_
  refine L_if_ne (tgt := 961) dL_law_946 (by decide) ecode_rg (fun z => ?_) (fun z => ?_)
  · skip
    refine J_goto (tgt := 964) dL_law_961 (by decide) ?_
    refine jJ.mono (ls' := [some (.ref 0), some (.ref 1), some (.ref 116), some (.ref 146), some (vi i), none, none]) (lsub_ok (by repeat (first | exact trivial | refine ⟨rfl, ?_⟩))) (fun _ _ _ q => q) ?_
    exact ih _ _ _ _ _ A.2.1 hg2 (by omega)
  · have e := ecode_0 z
    have e2 := A.2.2.2 e
    have e3 := q3 e
    refine J_aload_n dL_law_949 rfl ?_
    refine J_iconst (v := Int32.ofInt 0) dL_law_950 (by decide) ?_
    refine L_lald dL_law_951 hg2.2.2.2 ?_
    refine J_iload dL_law_952 rfl ?_
    refine J_i2l dL_law_954 ?_
    refine L_lcmp (tgt := 961) dL_law_955 dL_law_956 (by decide) (by rw [e3, e2]) ?_
    refine J_goto (tgt := 964) dL_law_961 (by decide) ?_
    refine jJ.mono (ls' := [some (.ref 0), some (.ref 1), some (.ref 116), some (.ref 146), some (vi i), none, none]) (lsub_ok (by repeat (first | exact trivial | refine ⟨rfl, ?_⟩))) (fun _ _ _ q => q) ?_
    exact ih _ _ _ _ _ A.2.1 hg2 (by omega)
