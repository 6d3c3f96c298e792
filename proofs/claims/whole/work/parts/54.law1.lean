/-! the law's own walk -/
theorem iz_and15 (a : Int) : Int32.ofInt a &&& Int32.ofInt 15 = Int32.ofInt (a % 16) := by
  rw [← Int32.toBitVec_inj, Int32.toBitVec_and, bv_iz, bv_iz, bv_iz]
  apply BitVec.eq_of_toNat_eq
  rw [BitVec.toNat_and, BitVec.toNat_ofInt, BitVec.toNat_ofInt, BitVec.toNat_ofInt]
  have e : ((15 : Int) % ((2 ^ 32 : Nat) : Int)).toNat = 2 ^ 4 - 1 := by decide
  rw [e, Nat.and_two_pow_sub_one_eq_mod]
  have e2 : ((2 ^ 32 : Nat) : Int) = 4294967296 := by decide
  rw [e2]; omega
def GI (xs : List Int32) (ov : Int64) (σ : cS) (μ : mS) (h : jH) : Prop := jCls h σ ∧ jMod h μ ∧ h 0 = (20, xs.map .int) ∧ h 146 = (11, [.long ov])
theorem jCls_congr {h h' : jH} {σ : cS} (hf : ∀ k, 1 ≤ k → k < 116 → h' k = h k) (hc : jCls h σ) : jCls h' σ := by
  obtain ⟨h1, h2, h3, h4, h5, h6, h7, h8⟩ := hc
  have at0 : ∀ {k c : Nat}, kd k = c → c ≠ 99 → c ≠ 20 → h' k = h k := fun {k c} hk g1 g2 => hf k (by
    rcases Nat.eq_zero_or_pos k with e | e
    · subst e; exact absurd (hk.symm.trans (by decide : kd 0 = 20)) g2
    · exact e) (kd_lt hk g1)
  refine ⟨fun r hr => ?_, fun p hp => ?_, fun p hp => ?_, fun p hp => ?_, fun p hp => ?_, fun p hp => ?_, ?_, ?_⟩
  · obtain ⟨x1, ys, x2, x3⟩ := h1 r hr
    exact ⟨(at0 hr (by decide) (by decide)).trans x1, ys, (at0 (kd_row hr).1 (by decide) (by decide)).trans x2, x3⟩
  · rw [at0 hp (by decide) (by decide)]; exact h2 p hp
  · rw [at0 hp (by decide) (by decide)]; exact h3 p hp
  · rw [at0 hp (by decide) (by decide)]; exact h4 p hp
  · rw [at0 hp (by decide) (by decide)]; exact h5 p hp
  · rw [at0 hp (by decide) (by decide)]; exact h6 p hp
  · rw [hf 5 (by omega) (by omega)]; exact h7
  · rw [hf 1 (by omega) (by omega)]; exact h8
theorem jMod_congr {h h' : jH} {μ : mS} (hf : ∀ k, 116 ≤ k → k < 146 → h' k = h k) (hc : jMod h μ) : jMod h' μ :=
  ⟨(hf 116 (by omega) (by omega)).trans hc.1, fun k hk => by
    have := apos_own k (marr_lt hk) hk
    exact (hf _ (by omega) (by omega)).trans (hc.2 k hk)⟩
theorem GI.cls {xs : List Int32} {ov : Int64} {σ σ' : cS} {μ : mS} {h h' : jH} (hg : GI xs ov σ μ h) (hf : ∀ k, ¬ jown k → h' k = h k) (hc : jCls h' σ') : GI xs ov σ' μ h' :=
  ⟨hc, jMod_congr (fun k g1 g2 => hf k (fun q => by have := q.2; omega)) hg.2.1, (hf 0 (fun q => by have := q.1; omega)).trans hg.2.2.1, (hf 146 (fun q => by have := q.2; omega)).trans hg.2.2.2⟩
theorem GI.mod {xs : List Int32} {ov : Int64} {σ : cS} {μ μ' : mS} {h h' : jH} (hg : GI xs ov σ μ h) (hf : ∀ k, ¬ mown k → h' k = h k) (hc : jMod h' μ') : GI xs ov σ μ' h' :=
  ⟨jCls_congr (fun k g1 g2 => hf k (fun q => by have := q.1; omega)) hg.1, hc, (hf 0 (fun q => by have := q.1; omega)).trans hg.2.2.1, (hf 146 (fun q => by have := q.2; omega)).trans hg.2.2.2⟩
theorem GI.junk {xs : List Int32} {ov : Int64} {σ : cS} {μ : mS} {h : jH} {n : Nat} {c : Nat × List Value} (hg : GI xs ov σ μ h) (hn : 147 ≤ n) : GI xs ov σ μ (jup h n c) :=
  ⟨jCls_congr (fun k g1 g2 => jup_ne (by omega)) hg.1, jMod_congr (fun k g1 g2 => jup_ne (by omega)) hg.2.1, (jup_ne (by omega)).trans hg.2.2.1, (jup_ne (by omega)).trans hg.2.2.2⟩
theorem GI.out {xs : List Int32} {ov ow : Int64} {σ : cS} {μ : mS} {h : jH} (hg : GI xs ov σ μ h) : GI xs ow σ μ (jup h 146 (11, [.long ow])) :=
  ⟨jCls_congr (fun k g1 g2 => jup_ne (by omega)) hg.1, jMod_congr (fun k g1 g2 => jup_ne (by omega)) hg.2.1, (jup_ne (by omega)).trans hg.2.2.1, jup_same⟩
section LW
variable {l : Launch} {G : jG} {Y : jY} {d bc bs n pc : Nat} {ls : List (Option Value)} {st : List Value} {h : jH} {K : jK} {xs : List Int32} {ov : Int64} {σ τ : cS} {μ ν : mS}
theorem L_cls {idx d' : Nat} {Y' : jM} {As : List Value} {ls0 : List (Option Value)} {v : Option Value} (hd : decode Y.1.2.1 pc = .ok (.invokevirtual idx, 3)) (hv : jvir Y.1.1.cls idx 6 Y' As.length) (hM : CJ jCls jown l G (Y', []) d' 0 0 0 ls0 [] σ (det v τ)) (hg : GI xs ov σ μ h) (hls : ls0 = jent (.ref 1 :: As) Y'.2.2.1) (hn : (jflat (.ref 1 :: As)).length ≤ Y'.2.2.1) (hdd : d' + 1 ≤ d) (hw : (st.map fun v => v.category).sum ≤ 8)
    (kk : ∀ h', GI xs ov τ μ h' → jJ l G Y d bc bs n (pc + 3) ls (v.toList ++ st) h' K) : jJ l G Y d bc bs n pc ls (As.reverse ++ .ref 1 :: st) h K :=
  J_callV (bc' := 0) (bs' := 0) hd hv hg.1.2.2.2.2.2.2.2 hls hn hdd hw (hM n h h hg.1 (fun _ _ => rfl)) (fun E n' h' q => by obtain ⟨-, -, s, -, q⟩ := q; exact (det_no q).elim) (fun v' n' h' q => by
    obtain ⟨e0, hf, s, hc, e1, e2⟩ := q
    cases Sum.inl.inj e1; subst e2; subst e0
    exact kk h' (hg.cls hf hc))
theorem L_mod {idx d' : Nat} {Y' : jM} {As : List Value} {ls0 : List (Option Value)} {v : Option Value} (hd : decode Y.1.2.1 pc = .ok (.invokevirtual idx, 3)) (hv : jvir Y.1.1.cls idx 7 Y' As.length) (hM : CJ jMod mown l G (Y', []) d' 0 0 0 ls0 [] μ (det v ν)) (hg : GI xs ov σ μ h) (hls : ls0 = jent (.ref 116 :: As) Y'.2.2.1) (hn : (jflat (.ref 116 :: As)).length ≤ Y'.2.2.1) (hdd : d' + 1 ≤ d) (hw : (st.map fun v => v.category).sum ≤ 8)
    (kk : ∀ h', GI xs ov σ ν h' → jJ l G Y d bc bs n (pc + 3) ls (v.toList ++ st) h' K) : jJ l G Y d bc bs n pc ls (As.reverse ++ .ref 116 :: st) h K :=
  J_callV (bc' := 0) (bs' := 0) hd hv hg.2.1.1 hls hn hdd hw (hM n h h hg.2.1 (fun _ _ => rfl)) (fun E n' h' q => by obtain ⟨-, -, s, -, q⟩ := q; exact (det_no q).elim) (fun v' n' h' q => by
    obtain ⟨e0, hf, s, hc, e1, e2⟩ := q
    cases Sum.inl.inj e1; subst e2; subst e0
    exact kk h' (hg.mod hf hc))
theorem L_if_eq {a : Int} {off : Int} {tgt : Nat} (hd : decode Y.1.2.1 pc = .ok (.ifCond .eq off, 3)) (ht : (pc : Int) + off = (tgt : Int)) (ha : rg a) (kt : a = 0 → jJ l G Y d bc bs n tgt ls st h K) (kf : ¬ a = 0 → jJ l G Y d bc bs n (pc + 3) ls st h K) : jJ l G Y d bc bs n pc ls (vi a :: st) h K :=
  J_if_eq hd ht (fun z => kt ((iz_eq ha (⟨by decide, by decide⟩ : rg 0)).mp (by rw [iz_0]; exact z))) (fun z => kf (fun q => z (by rw [← iz_0]; exact (iz_eq ha (⟨by decide, by decide⟩ : rg 0)).mpr q)))
theorem L_if_ne {a : Int} {off : Int} {tgt : Nat} (hd : decode Y.1.2.1 pc = .ok (.ifCond .ne off, 3)) (ht : (pc : Int) + off = (tgt : Int)) (ha : rg a) (kt : ¬ a = 0 → jJ l G Y d bc bs n tgt ls st h K) (kf : a = 0 → jJ l G Y d bc bs n (pc + 3) ls st h K) : jJ l G Y d bc bs n pc ls (vi a :: st) h K :=
  J_if_ne hd ht (fun z => kt (fun q => z (by rw [← iz_0]; exact (iz_eq ha (⟨by decide, by decide⟩ : rg 0)).mpr q))) (fun z => kf ((iz_eq ha (⟨by decide, by decide⟩ : rg 0)).mp (by rw [iz_0]; exact z)))
theorem L_cmp {a b : Int} {off : Int} {tgt : Nat} (hd : decode Y.1.2.1 pc = .ok (.if_icmp .eq off, 3)) (ht : (pc : Int) + off = (tgt : Int)) (e : a = b) (kt : jJ l G Y d bc bs n tgt ls st h K) : jJ l G Y d bc bs n pc ls (vi b :: vi a :: st) h K :=
  J_icmp_eq hd ht (fun _ => kt) (fun z => absurd (by rw [e]) z)
theorem L_lcmp {x y : Int64} {off : Int} {tgt : Nat} (hd : decode Y.1.2.1 pc = .ok (.lcmp, 1)) (hd2 : decode Y.1.2.1 (pc + 1) = .ok (.ifCond .eq off, 3)) (ht : ((pc + 1 : Nat) : Int) + off = (tgt : Int)) (e : x = y) (kt : jJ l G Y d bc bs n tgt ls st h K) : jJ l G Y d bc bs n pc ls (.long y :: .long x :: st) h K :=
  J_lcmp hd (J_if_eq hd2 ht (fun _ => kt) (fun z => absurd (by subst e; simp [lg_cmp]) z))
end LW
def hK (xs : List Int32) (μ : mS) (n : Nat) (a b : String) (c : Option String × Int × cS) (ow : Int64) : jK := fun o n' h' => o = .inl (some (vi (ecode a b c.1))) ∧ n ≤ n' ∧ ∃ ov, GI xs ov c.2.2 μ h' ∧ (c.1 = none → ov = ow)
theorem rgb_close {σ : cS} {t : Int} : 0 ≤ (c_close σ t).2.1 ∧ (c_close σ t).2.1 ≤ 1 := by
  unfold c_close
  (repeat' split) <;> first | (show (0 : Int) ≤ bz _ ∧ bz _ ≤ 1; cases (c_closeList σ (72 + 11 * Int.toNat t)).1 <;> exact ⟨by decide, by decide⟩) | exact ⟨Int.le_refl 0, (by decide : (0 : Int) ≤ 1)⟩ | exact ⟨(by decide : (0 : Int) ≤ 1), Int.le_refl 1⟩
theorem rgb_clear {σ : cS} {t : Int} : 0 ≤ (c_clear σ t).2.1 ∧ (c_clear σ t).2.1 ≤ 1 := by
  unfold c_clear
  (repeat' split) <;> first | (show (0 : Int) ≤ bz _ ∧ bz _ ≤ 1; cases (c_closeList σ (72 + 11 * Int.toNat t)).1 <;> exact ⟨by decide, by decide⟩) | exact ⟨Int.le_refl 0, (by decide : (0 : Int) ≤ 1)⟩ | exact ⟨(by decide : (0 : Int) ≤ 1), Int.le_refl 1⟩
theorem H_slot {l : Launch} {G : jG} {n : Nat} {h : jH} {xs : List Int32} {ov : Int64} {σ : cS} {μ : mS} {t v b c : Int} (hw : wf σ) (hdp : ∀ q : Nat, kd q = 4 → 0 ≤ σ.2.1 q 5) (hn : 147 ≤ n) (hg : GI xs ov σ μ h) (ht : rg t) (hv : rg v) (hb : 0 ≤ b ∧ b ≤ 1) (hc : rg c) (hEx : (c_slot σ t v b c).1 = none ∨ (c_slot σ t v b c).1 = some IAE ∨ (c_slot σ t v b c).1 = some ISE) : jJ l G (mL_slot, hL_slot) 7 1 6 n 0 [some (.ref 1), some (vi t), some (vi v), some (vi b), some (vi c), some (.ref 146), none] [] h (hK xs μ n IAE ISE (c_slot σ t v b c) (Int32.ofInt (c_slot σ t v b c).2.1).toInt64) := by
  refine J_aload dL_slot_0 rfl ?_
  refine J_iconst (v := Int32.ofInt 0) dL_slot_2 (by decide) ?_
  refine J_aload_n dL_slot_3 rfl ?_
  refine J_iload_n dL_slot_4 rfl ?_
  refine J_iload_n dL_slot_5 rfl ?_
  refine J_iload_n dL_slot_6 rfl ?_
  refine J_iload dL_slot_7 rfl ?_
  refine J_callVX (As := [vi t, vi v, vi b, vi c]) (bc := 0) (bs := 0) (bc' := 1) (bs' := 6) (d' := 6) dL_slot_9 v_L_7 hg.1.2.2.2.2.2.2.2 rfl (Nat.le_of_ble_eq_true rfl) (by omega) (Nat.le_of_ble_eq_true rfl) (t_slot hw (Nat.le_refl _) ht hv hb hc n h h hg.1 (fun _ _ => rfl)) (fun E n' h' q => ?_) (fun v' n' h' q => ?_)
  · obtain ⟨e0, hf, s, hc, q1, q2⟩ := q
    subst q2; subst e0
    have g2 := (hg.cls hf hc).junk (c := (30, [])) hn
    rcases hEx with e | e | e
    · rw [e] at q1; cases q1
    · rw [e] at q1; cases q1
      refine ⟨17, ⟨⟨by decide, by decide⟩, by decide, IAE, (List.mem_of_getElem? (i := 315) (by decide +kernel)), Or.inl ⟨rfl, (List.mem_of_getElem? (i := 345) (by decide +kernel)), rfl⟩⟩, ?_⟩
      refine J_astore dL_slot_17 (by decide) rfl ?_
      refine J_iconst (v := Int32.ofInt 1) dL_slot_19 (by decide) ?_
      exact J_iret dL_slot_20 rfl ⟨by rw [e]; rfl, by omega, _, g2, fun z => by rw [e] at z; cases z⟩
    · rw [e] at q1; cases q1
      refine ⟨21, ⟨⟨by decide, by decide⟩, by decide, IAE, (List.mem_of_getElem? (i := 315) (by decide +kernel)), Or.inr ⟨⟨Or.inl rfl, rfl⟩, ⟨⟨by decide, by decide⟩, by decide, ISE, (List.mem_of_getElem? (i := 316) (by decide +kernel)), Or.inl ⟨rfl, (List.mem_of_getElem? (i := 422) (by decide +kernel)), rfl⟩⟩⟩⟩, ?_⟩
      refine J_astore dL_slot_21 (by decide) rfl ?_
      refine J_iconst (v := Int32.ofInt 2) dL_slot_23 (by decide) ?_
      exact J_iret dL_slot_24 rfl ⟨by rw [e]; rfl, by omega, _, g2, fun z => by rw [e] at z; cases z⟩
  · obtain ⟨e0, hf, s, hc, q1, q2⟩ := q
    subst q2; subst e0
    have g2 := hg.cls hf hc
    rcases hEx with e | e | e
    · rw [e] at q1; cases q1
      simp only [Option.toList, List.cons_append, List.nil_append]
      refine J_i2l dL_slot_12 ?_
      refine J_last dL_slot_13 g2.2.2.2 (by decide) (by show (Int32.ofInt 0).toNatClampNeg < 1; decide) ?_
      refine J_goto (tgt := 25) dL_slot_14 (by decide) ?_
      refine J_iconst (v := Int32.ofInt 0) dL_slot_25 (by decide) ?_
      exact J_iret dL_slot_26 rfl ⟨by rw [e]; rfl, Nat.le_refl _, _, g2.out, fun _ => rfl⟩
    · rw [e] at q1; cases q1
    · rw [e] at q1; cases q1
theorem H_open {l : Launch} {G : jG} {n : Nat} {h : jH} {xs : List Int32} {ov : Int64} {σ : cS} {μ : mS} {t b c : Int} (hw : wf σ) (hdp : ∀ q : Nat, kd q = 4 → 0 ≤ σ.2.1 q 5) (hn : 147 ≤ n) (hg : GI xs ov σ μ h) (ht : rg t) (hb : 0 ≤ b ∧ b ≤ 1) (hc : rg c) (hEx : (c_open σ t b c).1 = none ∨ (c_open σ t b c).1 = some IAE ∨ (c_open σ t b c).1 = some ISE) : jJ l G (mL_open, hL_open) 7 1 6 n 0 [some (.ref 1), some (vi t), some (vi b), some (vi c), some (.ref 146), none] [] h (hK xs μ n IAE ISE (c_open σ t b c) (Int32.ofInt (c_open σ t b c).2.1).toInt64) := by
  refine J_aload dL_open_0 rfl ?_
  refine J_iconst (v := Int32.ofInt 0) dL_open_2 (by decide) ?_
  refine J_aload_n dL_open_3 rfl ?_
  refine J_iload_n dL_open_4 rfl ?_
  refine J_iload_n dL_open_5 rfl ?_
  refine J_iload_n dL_open_6 rfl ?_
  refine J_callVX (As := [vi t, vi b, vi c]) (bc := 0) (bs := 0) (bc' := 1) (bs' := 6) (d' := 6) dL_open_7 v_L_17 hg.1.2.2.2.2.2.2.2 rfl (Nat.le_of_ble_eq_true rfl) (by omega) (Nat.le_of_ble_eq_true rfl) (t_open hw (Nat.le_refl _) ht hb hc n h h hg.1 (fun _ _ => rfl)) (fun E n' h' q => ?_) (fun v' n' h' q => ?_)
  · obtain ⟨e0, hf, s, hc, q1, q2⟩ := q
    subst q2; subst e0
    have g2 := (hg.cls hf hc).junk (c := (30, [])) hn
    rcases hEx with e | e | e
    · rw [e] at q1; cases q1
    · rw [e] at q1; cases q1
      refine ⟨15, ⟨⟨by decide, by decide⟩, by decide, IAE, (List.mem_of_getElem? (i := 315) (by decide +kernel)), Or.inl ⟨rfl, (List.mem_of_getElem? (i := 345) (by decide +kernel)), rfl⟩⟩, ?_⟩
      refine J_astore dL_open_15 (by decide) rfl ?_
      refine J_iconst (v := Int32.ofInt 1) dL_open_17 (by decide) ?_
      exact J_iret dL_open_18 rfl ⟨by rw [e]; rfl, by omega, _, g2, fun z => by rw [e] at z; cases z⟩
    · rw [e] at q1; cases q1
      refine ⟨19, ⟨⟨by decide, by decide⟩, by decide, IAE, (List.mem_of_getElem? (i := 315) (by decide +kernel)), Or.inr ⟨⟨Or.inl rfl, rfl⟩, ⟨⟨by decide, by decide⟩, by decide, ISE, (List.mem_of_getElem? (i := 316) (by decide +kernel)), Or.inl ⟨rfl, (List.mem_of_getElem? (i := 422) (by decide +kernel)), rfl⟩⟩⟩⟩, ?_⟩
      refine J_astore dL_open_19 (by decide) rfl ?_
      refine J_iconst (v := Int32.ofInt 2) dL_open_21 (by decide) ?_
      exact J_iret dL_open_22 rfl ⟨by rw [e]; rfl, by omega, _, g2, fun z => by rw [e] at z; cases z⟩
  · obtain ⟨e0, hf, s, hc, q1, q2⟩ := q
    subst q2; subst e0
    have g2 := hg.cls hf hc
    rcases hEx with e | e | e
    · rw [e] at q1; cases q1
      simp only [Option.toList, List.cons_append, List.nil_append]
      refine J_i2l dL_open_10 ?_
      refine J_last dL_open_11 g2.2.2.2 (by decide) (by show (Int32.ofInt 0).toNatClampNeg < 1; decide) ?_
      refine J_goto (tgt := 23) dL_open_12 (by decide) ?_
      refine J_iconst (v := Int32.ofInt 0) dL_open_23 (by decide) ?_
      exact J_iret dL_open_24 rfl ⟨by rw [e]; rfl, Nat.le_refl _, _, g2.out, fun _ => rfl⟩
    · rw [e] at q1; cases q1
    · rw [e] at q1; cases q1
theorem H_close {l : Launch} {G : jG} {n : Nat} {h : jH} {xs : List Int32} {ov : Int64} {σ : cS} {μ : mS} {t : Int} (hw : wf σ) (hdp : ∀ q : Nat, kd q = 4 → 0 ≤ σ.2.1 q 5) (hn : 147 ≤ n) (hg : GI xs ov σ μ h) (ht : rg t) (hEx : (c_close σ t).1 = none ∨ (c_close σ t).1 = some IAE ∨ (c_close σ t).1 = some IAE) : jJ l G (mL_close, hL_close) 7 1 6 n 0 [some (.ref 1), some (vi t), some (.ref 146), none] [] h (hK xs μ n IAE IAE (c_close σ t) (if (c_close σ t).2.1 = 0 then 0 else 1)) := by
  refine J_aload_n dL_close_0 rfl ?_
  refine J_iconst (v := Int32.ofInt 0) dL_close_1 (by decide) ?_
  refine J_aload_n dL_close_2 rfl ?_
  refine J_iload_n dL_close_3 rfl ?_
  refine J_callVX (As := [vi t]) (bc := 0) (bs := 0) (bc' := 1) (bs' := 6) (d' := 6) dL_close_4 v_L_21 hg.1.2.2.2.2.2.2.2 rfl (Nat.le_of_ble_eq_true rfl) (by omega) (Nat.le_of_ble_eq_true rfl) (t_close hw (Nat.le_refl _) ht hdp n h h hg.1 (fun _ _ => rfl)) (fun E n' h' q => ?_) (fun v' n' h' q => ?_)
  · obtain ⟨e0, hf, s, hc, q1, q2⟩ := q
    subst q2; subst e0
    have g2 := (hg.cls hf hc).junk (c := (30, [])) hn
    rcases hEx with e | e | e
    · rw [e] at q1; cases q1
    · rw [e] at q1; cases q1
      refine ⟨19, ⟨⟨by decide, by decide⟩, by decide, IAE, (List.mem_of_getElem? (i := 315) (by decide +kernel)), Or.inl ⟨rfl, (List.mem_of_getElem? (i := 345) (by decide +kernel)), rfl⟩⟩, ?_⟩
      refine J_astore_n dL_close_19 (by decide) rfl ?_
      refine J_iconst (v := Int32.ofInt 1) dL_close_20 (by decide) ?_
      exact J_iret dL_close_21 rfl ⟨by rw [e]; rfl, by omega, _, g2, fun z => by rw [e] at z; cases z⟩
    · rw [e] at q1; cases q1
      refine ⟨19, ⟨⟨by decide, by decide⟩, by decide, IAE, (List.mem_of_getElem? (i := 315) (by decide +kernel)), Or.inl ⟨rfl, (List.mem_of_getElem? (i := 345) (by decide +kernel)), rfl⟩⟩, ?_⟩
      refine J_astore_n dL_close_19 (by decide) rfl ?_
      refine J_iconst (v := Int32.ofInt 1) dL_close_20 (by decide) ?_
      exact J_iret dL_close_21 rfl ⟨by rw [e]; rfl, by omega, _, g2, fun z => by rw [e] at z; cases z⟩
  · obtain ⟨e0, hf, s, hc, q1, q2⟩ := q
    subst q2; subst e0
    have g2 := hg.cls hf hc
    rcases hEx with e | e | e
    · rw [e] at q1; cases q1
      simp only [Option.toList, List.cons_append, List.nil_append]
      refine L_if_eq (tgt := 14) dL_close_7 (by decide) (by have := rgb_close (σ := σ) (t := t); omega) (fun z => ?_) (fun z => ?_)
      · refine J_lconst (v := 0) dL_close_14 (by decide) ?_
        refine J_last dL_close_15 g2.2.2.2 (by decide) (by show (Int32.ofInt 0).toNatClampNeg < 1; decide) ?_
        refine J_goto (tgt := 22) dL_close_16 (by decide) ?_
        refine J_iconst (v := Int32.ofInt 0) dL_close_22 (by decide) ?_
        exact J_iret dL_close_23 rfl ⟨by rw [e]; rfl, Nat.le_refl _, _, g2.out, fun _ => (if_pos z).symm⟩
      · refine J_lconst (v := 1) dL_close_10 (by decide) ?_
        refine J_goto (tgt := 15) dL_close_11 (by decide) ?_
        refine J_last dL_close_15 g2.2.2.2 (by decide) (by show (Int32.ofInt 0).toNatClampNeg < 1; decide) ?_
        refine J_goto (tgt := 22) dL_close_16 (by decide) ?_
        refine J_iconst (v := Int32.ofInt 0) dL_close_22 (by decide) ?_
        exact J_iret dL_close_23 rfl ⟨by rw [e]; rfl, Nat.le_refl _, _, g2.out, fun _ => (if_neg z).symm⟩
    · rw [e] at q1; cases q1
    · rw [e] at q1; cases q1
theorem H_clear {l : Launch} {G : jG} {n : Nat} {h : jH} {xs : List Int32} {ov : Int64} {σ : cS} {μ : mS} {t : Int} (hw : wf σ) (hdp : ∀ q : Nat, kd q = 4 → 0 ≤ σ.2.1 q 5) (hn : 147 ≤ n) (hg : GI xs ov σ μ h) (ht : rg t) (hEx : (c_clear σ t).1 = none ∨ (c_clear σ t).1 = some IAE ∨ (c_clear σ t).1 = some IAE) : jJ l G (mL_clear, hL_clear) 7 1 6 n 0 [some (.ref 1), some (vi t), some (.ref 146), none] [] h (hK xs μ n IAE IAE (c_clear σ t) (if (c_clear σ t).2.1 = 0 then 0 else 1)) := by
  refine J_aload_n dL_clear_0 rfl ?_
  refine J_iconst (v := Int32.ofInt 0) dL_clear_1 (by decide) ?_
  refine J_aload_n dL_clear_2 rfl ?_
  refine J_iload_n dL_clear_3 rfl ?_
  refine J_callVX (As := [vi t]) (bc := 0) (bs := 0) (bc' := 1) (bs' := 6) (d' := 6) dL_clear_4 v_L_25 hg.1.2.2.2.2.2.2.2 rfl (Nat.le_of_ble_eq_true rfl) (by omega) (Nat.le_of_ble_eq_true rfl) (t_clear hw (Nat.le_refl _) ht n h h hg.1 (fun _ _ => rfl)) (fun E n' h' q => ?_) (fun v' n' h' q => ?_)
  · obtain ⟨e0, hf, s, hc, q1, q2⟩ := q
    subst q2; subst e0
    have g2 := (hg.cls hf hc).junk (c := (30, [])) hn
    rcases hEx with e | e | e
    · rw [e] at q1; cases q1
    · rw [e] at q1; cases q1
      refine ⟨19, ⟨⟨by decide, by decide⟩, by decide, IAE, (List.mem_of_getElem? (i := 315) (by decide +kernel)), Or.inl ⟨rfl, (List.mem_of_getElem? (i := 345) (by decide +kernel)), rfl⟩⟩, ?_⟩
      refine J_astore_n dL_clear_19 (by decide) rfl ?_
      refine J_iconst (v := Int32.ofInt 1) dL_clear_20 (by decide) ?_
      exact J_iret dL_clear_21 rfl ⟨by rw [e]; rfl, by omega, _, g2, fun z => by rw [e] at z; cases z⟩
    · rw [e] at q1; cases q1
      refine ⟨19, ⟨⟨by decide, by decide⟩, by decide, IAE, (List.mem_of_getElem? (i := 315) (by decide +kernel)), Or.inl ⟨rfl, (List.mem_of_getElem? (i := 345) (by decide +kernel)), rfl⟩⟩, ?_⟩
      refine J_astore_n dL_clear_19 (by decide) rfl ?_
      refine J_iconst (v := Int32.ofInt 1) dL_clear_20 (by decide) ?_
      exact J_iret dL_clear_21 rfl ⟨by rw [e]; rfl, by omega, _, g2, fun z => by rw [e] at z; cases z⟩
  · obtain ⟨e0, hf, s, hc, q1, q2⟩ := q
    subst q2; subst e0
    have g2 := hg.cls hf hc
    rcases hEx with e | e | e
    · rw [e] at q1; cases q1
      simp only [Option.toList, List.cons_append, List.nil_append]
      refine L_if_eq (tgt := 14) dL_clear_7 (by decide) (by have := rgb_clear (σ := σ) (t := t); omega) (fun z => ?_) (fun z => ?_)
      · refine J_lconst (v := 0) dL_clear_14 (by decide) ?_
        refine J_last dL_clear_15 g2.2.2.2 (by decide) (by show (Int32.ofInt 0).toNatClampNeg < 1; decide) ?_
        refine J_goto (tgt := 22) dL_clear_16 (by decide) ?_
        refine J_iconst (v := Int32.ofInt 0) dL_clear_22 (by decide) ?_
        exact J_iret dL_clear_23 rfl ⟨by rw [e]; rfl, Nat.le_refl _, _, g2.out, fun _ => (if_pos z).symm⟩
      · refine J_lconst (v := 1) dL_clear_10 (by decide) ?_
        refine J_goto (tgt := 15) dL_clear_11 (by decide) ?_
        refine J_last dL_clear_15 g2.2.2.2 (by decide) (by show (Int32.ofInt 0).toNatClampNeg < 1; decide) ?_
        refine J_goto (tgt := 22) dL_clear_16 (by decide) ?_
        refine J_iconst (v := Int32.ofInt 0) dL_clear_22 (by decide) ?_
        exact J_iret dL_clear_23 rfl ⟨by rw [e]; rfl, Nat.le_refl _, _, g2.out, fun _ => (if_neg z).symm⟩
    · rw [e] at q1; cases q1
    · rw [e] at q1; cases q1
theorem H_read {l : Launch} {G : jG} {n : Nat} {h : jH} {xs : List Int32} {ov : Int64} {σ : cS} {μ : mS} (hw : wf σ) (hdp : ∀ q : Nat, kd q = 4 → 0 ≤ σ.2.1 q 5) (hn : 147 ≤ n) (hg : GI xs ov σ μ h)  (hEx : (c_read σ ).1 = none ∨ (c_read σ ).1 = some IAE ∨ (c_read σ ).1 = some UOE) : jJ l G (mL_read, hL_read) 7 1 6 n 0 [some (.ref 1), some (.ref 146), none] [] h (hK xs μ n IAE UOE (c_read σ ) (Int32.ofInt (c_read σ ).2.1).toInt64) := by
  refine J_aload_n dL_read_0 rfl ?_
  refine J_iconst (v := Int32.ofInt 0) dL_read_1 (by decide) ?_
  refine J_aload_n dL_read_2 rfl ?_
  refine J_callVX (As := []) (bc := 0) (bs := 0) (bc' := 1) (bs' := 6) (d' := 6) dL_read_3 v_L_28 hg.1.2.2.2.2.2.2.2 rfl (Nat.le_of_ble_eq_true rfl) (by omega) (Nat.le_of_ble_eq_true rfl) (t_read hw (Nat.le_refl _)  n h h hg.1 (fun _ _ => rfl)) (fun E n' h' q => ?_) (fun v' n' h' q => ?_)
  · obtain ⟨e0, hf, s, hc, q1, q2⟩ := q
    subst q2; subst e0
    have g2 := (hg.cls hf hc).junk (c := (30, [])) hn
    rcases hEx with e | e | e
    · rw [e] at q1; cases q1
    · rw [e] at q1; cases q1
      refine ⟨11, ⟨⟨by decide, by decide⟩, by decide, IAE, (List.mem_of_getElem? (i := 315) (by decide +kernel)), Or.inl ⟨rfl, (List.mem_of_getElem? (i := 345) (by decide +kernel)), rfl⟩⟩, ?_⟩
      refine J_astore_n dL_read_11 (by decide) rfl ?_
      refine J_iconst (v := Int32.ofInt 1) dL_read_12 (by decide) ?_
      exact J_iret dL_read_13 rfl ⟨by rw [e]; rfl, by omega, _, g2, fun z => by rw [e] at z; cases z⟩
    · rw [e] at q1; cases q1
      refine ⟨14, ⟨⟨by decide, by decide⟩, by decide, IAE, (List.mem_of_getElem? (i := 315) (by decide +kernel)), Or.inr ⟨⟨Or.inr rfl, rfl⟩, ⟨⟨by decide, by decide⟩, by decide, UOE, (List.mem_of_getElem? (i := 495) (by decide +kernel)), Or.inl ⟨rfl, (List.mem_of_getElem? (i := 601) (by decide +kernel)), rfl⟩⟩⟩⟩, ?_⟩
      refine J_astore_n dL_read_14 (by decide) rfl ?_
      refine J_iconst (v := Int32.ofInt 2) dL_read_15 (by decide) ?_
      exact J_iret dL_read_16 rfl ⟨by rw [e]; rfl, by omega, _, g2, fun z => by rw [e] at z; cases z⟩
  · obtain ⟨e0, hf, s, hc, q1, q2⟩ := q
    subst q2; subst e0
    have g2 := hg.cls hf hc
    rcases hEx with e | e | e
    · rw [e] at q1; cases q1
      simp only [Option.toList, List.cons_append, List.nil_append]
      refine J_i2l dL_read_6 ?_
      refine J_last dL_read_7 g2.2.2.2 (by decide) (by show (Int32.ofInt 0).toNatClampNeg < 1; decide) ?_
      refine J_goto (tgt := 17) dL_read_8 (by decide) ?_
      refine J_iconst (v := Int32.ofInt 0) dL_read_17 (by decide) ?_
      exact J_iret dL_read_18 rfl ⟨by rw [e]; rfl, Nat.le_refl _, _, g2.out, fun _ => rfl⟩
    · rw [e] at q1; cases q1
    · rw [e] at q1; cases q1
theorem H_interchange {l : Launch} {G : jG} {n : Nat} {h : jH} {xs : List Int32} {ov : Int64} {σ : cS} {μ : mS} {a : Int} (hw : wf σ) (hdp : ∀ q : Nat, kd q = 4 → 0 ≤ σ.2.1 q 5) (hn : 147 ≤ n) (hg : GI xs ov σ μ h) (ha : rg a) (hEx : (c_interchange σ a).1 = none ∨ (c_interchange σ a).1 = some ISE ∨ (c_interchange σ a).1 = some ISE) : jJ l G (mL_interchange, hL_interchange) 8 1 6 n 0 [some (.ref 1), some (vi a), some (.ref 146), none] [] h (hK xs μ n ISE ISE (c_interchange σ a) (Int32.ofInt (c_interchange σ a).2.1).toInt64) := by
  refine J_aload_n dL_interchange_0 rfl ?_
  refine J_iconst (v := Int32.ofInt 0) dL_interchange_1 (by decide) ?_
  refine J_aload_n dL_interchange_2 rfl ?_
  refine J_iload_n dL_interchange_3 rfl ?_
  refine J_callVX (As := [vi a]) (bc := 0) (bs := 0) (bc' := 1) (bs' := 6) (d' := 7) dL_interchange_4 v_L_34 hg.1.2.2.2.2.2.2.2 rfl (Nat.le_of_ble_eq_true rfl) (by omega) (Nat.le_of_ble_eq_true rfl) (t_interchange hw (Nat.le_refl _) ha n h h hg.1 (fun _ _ => rfl)) (fun E n' h' q => ?_) (fun v' n' h' q => ?_)
  · obtain ⟨e0, hf, s, hc, q1, q2⟩ := q
    subst q2; subst e0
    have g2 := (hg.cls hf hc).junk (c := (30, [])) hn
    rcases hEx with e | e | e
    · rw [e] at q1; cases q1
    · rw [e] at q1; cases q1
      refine ⟨12, ⟨⟨by decide, by decide⟩, by decide, ISE, (List.mem_of_getElem? (i := 316) (by decide +kernel)), Or.inl ⟨rfl, (List.mem_of_getElem? (i := 422) (by decide +kernel)), rfl⟩⟩, ?_⟩
      refine J_astore_n dL_interchange_12 (by decide) rfl ?_
      refine J_iconst (v := Int32.ofInt 1) dL_interchange_13 (by decide) ?_
      exact J_iret dL_interchange_14 rfl ⟨by rw [e]; rfl, by omega, _, g2, fun z => by rw [e] at z; cases z⟩
    · rw [e] at q1; cases q1
      refine ⟨12, ⟨⟨by decide, by decide⟩, by decide, ISE, (List.mem_of_getElem? (i := 316) (by decide +kernel)), Or.inl ⟨rfl, (List.mem_of_getElem? (i := 422) (by decide +kernel)), rfl⟩⟩, ?_⟩
      refine J_astore_n dL_interchange_12 (by decide) rfl ?_
      refine J_iconst (v := Int32.ofInt 1) dL_interchange_13 (by decide) ?_
      exact J_iret dL_interchange_14 rfl ⟨by rw [e]; rfl, by omega, _, g2, fun z => by rw [e] at z; cases z⟩
  · obtain ⟨e0, hf, s, hc, q1, q2⟩ := q
    subst q2; subst e0
    have g2 := hg.cls hf hc
    rcases hEx with e | e | e
    · rw [e] at q1; cases q1
      simp only [Option.toList, List.cons_append, List.nil_append]
      refine J_i2l dL_interchange_7 ?_
      refine J_last dL_interchange_8 g2.2.2.2 (by decide) (by show (Int32.ofInt 0).toNatClampNeg < 1; decide) ?_
      refine J_goto (tgt := 15) dL_interchange_9 (by decide) ?_
      refine J_iconst (v := Int32.ofInt 0) dL_interchange_15 (by decide) ?_
      exact J_iret dL_interchange_16 rfl ⟨by rw [e]; rfl, Nat.le_refl _, _, g2.out, fun _ => rfl⟩
    · rw [e] at q1; cases q1
    · rw [e] at q1; cases q1
theorem H_message {l : Launch} {G : jG} {n : Nat} {h : jH} {xs : List Int32} {ov : Int64} {σ : cS} {μ : mS} {a b : Int} (hw : wf σ) (hdp : ∀ q : Nat, kd q = 4 → 0 ≤ σ.2.1 q 5) (hn : 147 ≤ n) (hg : GI xs ov σ μ h) (ha : rg a) (hb : rg b) (hEx : (c_message σ a b).1 = none ∨ (c_message σ a b).1 = some ISE ∨ (c_message σ a b).1 = some ISE) : jJ l G (mL_message, hL_message) 8 1 6 n 0 [some (.ref 1), some (vi a), some (vi b), some (.ref 146), none] [] h (hK xs μ n ISE ISE (c_message σ a b) (Int32.ofInt (c_message σ a b).2.1).toInt64) := by
  refine J_aload_n dL_message_0 rfl ?_
  refine J_iconst (v := Int32.ofInt 0) dL_message_1 (by decide) ?_
  refine J_aload_n dL_message_2 rfl ?_
  refine J_iload_n dL_message_3 rfl ?_
  refine J_iload_n dL_message_4 rfl ?_
  refine J_callVX (As := [vi a, vi b]) (bc := 0) (bs := 0) (bc' := 1) (bs' := 6) (d' := 7) dL_message_5 v_L_38 hg.1.2.2.2.2.2.2.2 rfl (Nat.le_of_ble_eq_true rfl) (by omega) (Nat.le_of_ble_eq_true rfl) (t_message hw (Nat.le_refl _) ha hb n h h hg.1 (fun _ _ => rfl)) (fun E n' h' q => ?_) (fun v' n' h' q => ?_)
  · obtain ⟨e0, hf, s, hc, q1, q2⟩ := q
    subst q2; subst e0
    have g2 := (hg.cls hf hc).junk (c := (30, [])) hn
    rcases hEx with e | e | e
    · rw [e] at q1; cases q1
    · rw [e] at q1; cases q1
      refine ⟨13, ⟨⟨by decide, by decide⟩, by decide, ISE, (List.mem_of_getElem? (i := 316) (by decide +kernel)), Or.inl ⟨rfl, (List.mem_of_getElem? (i := 422) (by decide +kernel)), rfl⟩⟩, ?_⟩
      refine J_astore dL_message_13 (by decide) rfl ?_
      refine J_iconst (v := Int32.ofInt 1) dL_message_15 (by decide) ?_
      exact J_iret dL_message_16 rfl ⟨by rw [e]; rfl, by omega, _, g2, fun z => by rw [e] at z; cases z⟩
    · rw [e] at q1; cases q1
      refine ⟨13, ⟨⟨by decide, by decide⟩, by decide, ISE, (List.mem_of_getElem? (i := 316) (by decide +kernel)), Or.inl ⟨rfl, (List.mem_of_getElem? (i := 422) (by decide +kernel)), rfl⟩⟩, ?_⟩
      refine J_astore dL_message_13 (by decide) rfl ?_
      refine J_iconst (v := Int32.ofInt 1) dL_message_15 (by decide) ?_
      exact J_iret dL_message_16 rfl ⟨by rw [e]; rfl, by omega, _, g2, fun z => by rw [e] at z; cases z⟩
  · obtain ⟨e0, hf, s, hc, q1, q2⟩ := q
    subst q2; subst e0
    have g2 := hg.cls hf hc
    rcases hEx with e | e | e
    · rw [e] at q1; cases q1
      simp only [Option.toList, List.cons_append, List.nil_append]
      refine J_i2l dL_message_8 ?_
      refine J_last dL_message_9 g2.2.2.2 (by decide) (by show (Int32.ofInt 0).toNatClampNeg < 1; decide) ?_
      refine J_goto (tgt := 17) dL_message_10 (by decide) ?_
      refine J_iconst (v := Int32.ofInt 0) dL_message_17 (by decide) ?_
      exact J_iret dL_message_18 rfl ⟨by rw [e]; rfl, Nat.le_refl _, _, g2.out, fun _ => rfl⟩
    · rw [e] at q1; cases q1
    · rw [e] at q1; cases q1
theorem H_group {l : Launch} {G : jG} {n : Nat} {h : jH} {xs : List Int32} {ov : Int64} {σ : cS} {μ : mS} {a : Int} (hw : wf σ) (hdp : ∀ q : Nat, kd q = 4 → 0 ≤ σ.2.1 q 5) (hn : 147 ≤ n) (hg : GI xs ov σ μ h) (ha : rg a) (hEx : (c_group σ a).1 = none ∨ (c_group σ a).1 = some ISE ∨ (c_group σ a).1 = some ISE) : jJ l G (mL_group, hL_group) 8 1 6 n 0 [some (.ref 1), some (vi a), some (.ref 146), none] [] h (hK xs μ n ISE ISE (c_group σ a) (Int32.ofInt (c_group σ a).2.1).toInt64) := by
  refine J_aload_n dL_group_0 rfl ?_
  refine J_iconst (v := Int32.ofInt 0) dL_group_1 (by decide) ?_
  refine J_aload_n dL_group_2 rfl ?_
  refine J_iload_n dL_group_3 rfl ?_
  refine J_callVX (As := [vi a]) (bc := 0) (bs := 0) (bc' := 1) (bs' := 6) (d' := 7) dL_group_4 v_L_42 hg.1.2.2.2.2.2.2.2 rfl (Nat.le_of_ble_eq_true rfl) (by omega) (Nat.le_of_ble_eq_true rfl) (t_group hw (Nat.le_refl _) ha n h h hg.1 (fun _ _ => rfl)) (fun E n' h' q => ?_) (fun v' n' h' q => ?_)
  · obtain ⟨e0, hf, s, hc, q1, q2⟩ := q
    subst q2; subst e0
    have g2 := (hg.cls hf hc).junk (c := (30, [])) hn
    rcases hEx with e | e | e
    · rw [e] at q1; cases q1
    · rw [e] at q1; cases q1
      refine ⟨12, ⟨⟨by decide, by decide⟩, by decide, ISE, (List.mem_of_getElem? (i := 316) (by decide +kernel)), Or.inl ⟨rfl, (List.mem_of_getElem? (i := 422) (by decide +kernel)), rfl⟩⟩, ?_⟩
      refine J_astore_n dL_group_12 (by decide) rfl ?_
      refine J_iconst (v := Int32.ofInt 1) dL_group_13 (by decide) ?_
      exact J_iret dL_group_14 rfl ⟨by rw [e]; rfl, by omega, _, g2, fun z => by rw [e] at z; cases z⟩
    · rw [e] at q1; cases q1
      refine ⟨12, ⟨⟨by decide, by decide⟩, by decide, ISE, (List.mem_of_getElem? (i := 316) (by decide +kernel)), Or.inl ⟨rfl, (List.mem_of_getElem? (i := 422) (by decide +kernel)), rfl⟩⟩, ?_⟩
      refine J_astore_n dL_group_12 (by decide) rfl ?_
      refine J_iconst (v := Int32.ofInt 1) dL_group_13 (by decide) ?_
      exact J_iret dL_group_14 rfl ⟨by rw [e]; rfl, by omega, _, g2, fun z => by rw [e] at z; cases z⟩
  · obtain ⟨e0, hf, s, hc, q1, q2⟩ := q
    subst q2; subst e0
    have g2 := hg.cls hf hc
    rcases hEx with e | e | e
    · rw [e] at q1; cases q1
      simp only [Option.toList, List.cons_append, List.nil_append]
      refine J_i2l dL_group_7 ?_
      refine J_last dL_group_8 g2.2.2.2 (by decide) (by show (Int32.ofInt 0).toNatClampNeg < 1; decide) ?_
      refine J_goto (tgt := 15) dL_group_9 (by decide) ?_
      refine J_iconst (v := Int32.ofInt 0) dL_group_15 (by decide) ?_
      exact J_iret dL_group_16 rfl ⟨by rw [e]; rfl, Nat.le_refl _, _, g2.out, fun _ => rfl⟩
    · rw [e] at q1; cases q1
    · rw [e] at q1; cases q1
theorem H_segment {l : Launch} {G : jG} {n : Nat} {h : jH} {xs : List Int32} {ov : Int64} {σ : cS} {μ : mS} {s u c i : Int} (hw : wf σ) (hdp : ∀ q : Nat, kd q = 4 → 0 ≤ σ.2.1 q 5) (hn : 147 ≤ n) (hg : GI xs ov σ μ h) (hs : rg s) (hu : rg u) (hc : rg c) (hi : rg i) (hEx : (c_segment σ s u c i).1 = none ∨ (c_segment σ s u c i).1 = some ISE ∨ (c_segment σ s u c i).1 = some ISE) : jJ l G (mL_segment, hL_segment) 8 1 6 n 0 [some (.ref 1), some (vi s), some (vi u), some (vi c), some (vi i), some (.ref 146), none] [] h (hK xs μ n ISE ISE (c_segment σ s u c i) (Int32.ofInt (c_segment σ s u c i).2.1).toInt64) := by
  refine J_aload dL_segment_0 rfl ?_
  refine J_iconst (v := Int32.ofInt 0) dL_segment_2 (by decide) ?_
  refine J_aload_n dL_segment_3 rfl ?_
  refine J_iload_n dL_segment_4 rfl ?_
  refine J_iload_n dL_segment_5 rfl ?_
  refine J_iload_n dL_segment_6 rfl ?_
  refine J_iload dL_segment_7 rfl ?_
  refine J_callVX (As := [vi s, vi u, vi c, vi i]) (bc := 0) (bs := 0) (bc' := 1) (bs' := 6) (d' := 7) dL_segment_9 v_L_45 hg.1.2.2.2.2.2.2.2 rfl (Nat.le_of_ble_eq_true rfl) (by omega) (Nat.le_of_ble_eq_true rfl) (t_segment hw (Nat.le_refl _) hs hu hc hi n h h hg.1 (fun _ _ => rfl)) (fun E n' h' q => ?_) (fun v' n' h' q => ?_)
  · obtain ⟨e0, hf, s, hc, q1, q2⟩ := q
    subst q2; subst e0
    have g2 := (hg.cls hf hc).junk (c := (30, [])) hn
    rcases hEx with e | e | e
    · rw [e] at q1; cases q1
    · rw [e] at q1; cases q1
      refine ⟨17, ⟨⟨by decide, by decide⟩, by decide, ISE, (List.mem_of_getElem? (i := 316) (by decide +kernel)), Or.inl ⟨rfl, (List.mem_of_getElem? (i := 422) (by decide +kernel)), rfl⟩⟩, ?_⟩
      refine J_astore dL_segment_17 (by decide) rfl ?_
      refine J_iconst (v := Int32.ofInt 1) dL_segment_19 (by decide) ?_
      exact J_iret dL_segment_20 rfl ⟨by rw [e]; rfl, by omega, _, g2, fun z => by rw [e] at z; cases z⟩
    · rw [e] at q1; cases q1
      refine ⟨17, ⟨⟨by decide, by decide⟩, by decide, ISE, (List.mem_of_getElem? (i := 316) (by decide +kernel)), Or.inl ⟨rfl, (List.mem_of_getElem? (i := 422) (by decide +kernel)), rfl⟩⟩, ?_⟩
      refine J_astore dL_segment_17 (by decide) rfl ?_
      refine J_iconst (v := Int32.ofInt 1) dL_segment_19 (by decide) ?_
      exact J_iret dL_segment_20 rfl ⟨by rw [e]; rfl, by omega, _, g2, fun z => by rw [e] at z; cases z⟩
  · obtain ⟨e0, hf, s, hc, q1, q2⟩ := q
    subst q2; subst e0
    have g2 := hg.cls hf hc
    rcases hEx with e | e | e
    · rw [e] at q1; cases q1
      simp only [Option.toList, List.cons_append, List.nil_append]
      refine J_i2l dL_segment_12 ?_
      refine J_last dL_segment_13 g2.2.2.2 (by decide) (by show (Int32.ofInt 0).toNatClampNeg < 1; decide) ?_
      refine J_goto (tgt := 21) dL_segment_14 (by decide) ?_
      refine J_iconst (v := Int32.ofInt 0) dL_segment_21 (by decide) ?_
      exact J_iret dL_segment_22 rfl ⟨by rw [e]; rfl, Nat.le_refl _, _, g2.out, fun _ => rfl⟩
    · rw [e] at q1; cases q1
    · rw [e] at q1; cases q1
theorem H_print {l : Launch} {G : jG} {n : Nat} {h : jH} {xs : List Int32} {ov : Int64} {σ : cS} {μ : mS} {a : Int} (hw : wf σ) (hdp : ∀ q : Nat, kd q = 4 → 0 ≤ σ.2.1 q 5) (hn : 147 ≤ n) (hg : GI xs ov σ μ h) (ha : rg a) (hEx : (c_print σ a).1 = none ∨ (c_print σ a).1 = some ISE ∨ (c_print σ a).1 = some ISE) : jJ l G (mL_print, hL_print) 8 1 6 n 0 [some (.ref 1), some (vi a), some (.ref 146), none] [] h (hK xs μ n ISE ISE (c_print σ a) (Int32.ofInt (c_print σ a).2.1).toInt64) := by
  refine J_aload_n dL_print_0 rfl ?_
  refine J_iconst (v := Int32.ofInt 0) dL_print_1 (by decide) ?_
  refine J_aload_n dL_print_2 rfl ?_
  refine J_iload_n dL_print_3 rfl ?_
  refine J_callVX (As := [vi a]) (bc := 0) (bs := 0) (bc' := 1) (bs' := 6) (d' := 7) dL_print_4 v_L_49 hg.1.2.2.2.2.2.2.2 rfl (Nat.le_of_ble_eq_true rfl) (by omega) (Nat.le_of_ble_eq_true rfl) (t_print hw (Nat.le_refl _) ha n h h hg.1 (fun _ _ => rfl)) (fun E n' h' q => ?_) (fun v' n' h' q => ?_)
  · obtain ⟨e0, hf, s, hc, q1, q2⟩ := q
    subst q2; subst e0
    have g2 := (hg.cls hf hc).junk (c := (30, [])) hn
    rcases hEx with e | e | e
    · rw [e] at q1; cases q1
    · rw [e] at q1; cases q1
      refine ⟨12, ⟨⟨by decide, by decide⟩, by decide, ISE, (List.mem_of_getElem? (i := 316) (by decide +kernel)), Or.inl ⟨rfl, (List.mem_of_getElem? (i := 422) (by decide +kernel)), rfl⟩⟩, ?_⟩
      refine J_astore_n dL_print_12 (by decide) rfl ?_
      refine J_iconst (v := Int32.ofInt 1) dL_print_13 (by decide) ?_
      exact J_iret dL_print_14 rfl ⟨by rw [e]; rfl, by omega, _, g2, fun z => by rw [e] at z; cases z⟩
    · rw [e] at q1; cases q1
      refine ⟨12, ⟨⟨by decide, by decide⟩, by decide, ISE, (List.mem_of_getElem? (i := 316) (by decide +kernel)), Or.inl ⟨rfl, (List.mem_of_getElem? (i := 422) (by decide +kernel)), rfl⟩⟩, ?_⟩
      refine J_astore_n dL_print_12 (by decide) rfl ?_
      refine J_iconst (v := Int32.ofInt 1) dL_print_13 (by decide) ?_
      exact J_iret dL_print_14 rfl ⟨by rw [e]; rfl, by omega, _, g2, fun z => by rw [e] at z; cases z⟩
  · obtain ⟨e0, hf, s, hc, q1, q2⟩ := q
    subst q2; subst e0
    have g2 := hg.cls hf hc
    rcases hEx with e | e | e
    · rw [e] at q1; cases q1
      simp only [Option.toList, List.cons_append, List.nil_append]
      refine J_i2l dL_print_7 ?_
      refine J_last dL_print_8 g2.2.2.2 (by decide) (by show (Int32.ofInt 0).toNatClampNeg < 1; decide) ?_
      refine J_goto (tgt := 15) dL_print_9 (by decide) ?_
      refine J_iconst (v := Int32.ofInt 0) dL_print_15 (by decide) ?_
      exact J_iret dL_print_16 rfl ⟨by rw [e]; rfl, Nat.le_refl _, _, g2.out, fun _ => rfl⟩
    · rw [e] at q1; cases q1
    · rw [e] at q1; cases q1
theorem H_report {l : Launch} {G : jG} {n : Nat} {h : jH} {xs : List Int32} {ov : Int64} {σ : cS} {μ : mS} {a : Int} (hw : wf σ) (hdp : ∀ q : Nat, kd q = 4 → 0 ≤ σ.2.1 q 5) (hn : 147 ≤ n) (hg : GI xs ov σ μ h) (ha : rg a) (hEx : (c_report σ a).1 = none ∨ (c_report σ a).1 = some ISE ∨ (c_report σ a).1 = some ISE) : jJ l G (mL_report, hL_report) 8 1 6 n 0 [some (.ref 1), some (vi a), some (.ref 146), none] [] h (hK xs μ n ISE ISE (c_report σ a) (Int32.ofInt (c_report σ a).2.1).toInt64) := by
  refine J_aload_n dL_report_0 rfl ?_
  refine J_iconst (v := Int32.ofInt 0) dL_report_1 (by decide) ?_
  refine J_aload_n dL_report_2 rfl ?_
  refine J_iload_n dL_report_3 rfl ?_
  refine J_callVX (As := [vi a]) (bc := 0) (bs := 0) (bc' := 1) (bs' := 6) (d' := 7) dL_report_4 v_L_52 hg.1.2.2.2.2.2.2.2 rfl (Nat.le_of_ble_eq_true rfl) (by omega) (Nat.le_of_ble_eq_true rfl) (t_report hw (Nat.le_refl _) ha n h h hg.1 (fun _ _ => rfl)) (fun E n' h' q => ?_) (fun v' n' h' q => ?_)
  · obtain ⟨e0, hf, s, hc, q1, q2⟩ := q
    subst q2; subst e0
    have g2 := (hg.cls hf hc).junk (c := (30, [])) hn
    rcases hEx with e | e | e
    · rw [e] at q1; cases q1
    · rw [e] at q1; cases q1
      refine ⟨12, ⟨⟨by decide, by decide⟩, by decide, ISE, (List.mem_of_getElem? (i := 316) (by decide +kernel)), Or.inl ⟨rfl, (List.mem_of_getElem? (i := 422) (by decide +kernel)), rfl⟩⟩, ?_⟩
      refine J_astore_n dL_report_12 (by decide) rfl ?_
      refine J_iconst (v := Int32.ofInt 1) dL_report_13 (by decide) ?_
      exact J_iret dL_report_14 rfl ⟨by rw [e]; rfl, by omega, _, g2, fun z => by rw [e] at z; cases z⟩
    · rw [e] at q1; cases q1
      refine ⟨12, ⟨⟨by decide, by decide⟩, by decide, ISE, (List.mem_of_getElem? (i := 316) (by decide +kernel)), Or.inl ⟨rfl, (List.mem_of_getElem? (i := 422) (by decide +kernel)), rfl⟩⟩, ?_⟩
      refine J_astore_n dL_report_12 (by decide) rfl ?_
      refine J_iconst (v := Int32.ofInt 1) dL_report_13 (by decide) ?_
      exact J_iret dL_report_14 rfl ⟨by rw [e]; rfl, by omega, _, g2, fun z => by rw [e] at z; cases z⟩
  · obtain ⟨e0, hf, s, hc, q1, q2⟩ := q
    subst q2; subst e0
    have g2 := hg.cls hf hc
    rcases hEx with e | e | e
    · rw [e] at q1; cases q1
      simp only [Option.toList, List.cons_append, List.nil_append]
      refine J_i2l dL_report_7 ?_
      refine J_last dL_report_8 g2.2.2.2 (by decide) (by show (Int32.ofInt 0).toNatClampNeg < 1; decide) ?_
      refine J_goto (tgt := 15) dL_report_9 (by decide) ?_
      refine J_iconst (v := Int32.ofInt 0) dL_report_15 (by decide) ?_
      exact J_iret dL_report_16 rfl ⟨by rw [e]; rfl, Nat.le_refl _, _, g2.out, fun _ => rfl⟩
    · rw [e] at q1; cases q1
    · rw [e] at q1; cases q1
