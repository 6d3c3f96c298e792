section LZ
variable {l : Launch} {G : jG} {Y : jY} {d bc bs n pc : Nat} {ls : List (Option Value)} {st : List Value} {h : jH} {K : jK}
theorem L_icmp_gt {a b : Int} {off : Int} {tgt : Nat} (hd : decode Y.1.2.1 pc = .ok (.if_icmp .gt off, 3)) (ht : (pc : Int) + off = (tgt : Int)) (ha : rg a) (hb : rg b) (kt : b < a → jJ l G Y d bc bs n tgt ls st h K) (kf : a ≤ b → jJ l G Y d bc bs n (pc + 3) ls st h K) : jJ l G Y d bc bs n pc ls (vi b :: vi a :: st) h K :=
  J_icmp_gt hd ht (fun z => kt ((iz_lt hb ha).mp z)) (fun z => kf (by have := mt (iz_lt hb ha).mpr z; omega))
theorem L_slen {xs : List Int32} (hd : decode Y.1.2.1 pc = .ok (.arraylength, 1)) (hd1 : decode Y.1.2.1 (pc + 1) = .ok (.iconst 5, 1)) (hd2 : decode Y.1.2.1 (pc + 2) = .ok (.isub, 1)) (hc : h 0 = (20, xs.map .int)) (k : jJ l G Y d bc bs n (pc + 3) ls (vi ((xs.length : Int) - 5) :: st) h K) : jJ l G Y d bc bs n pc ls (.ref 0 :: st) h K := by
  refine J_slen hd hc ?_
  refine J_iconst (v := iz 5) hd1 rfl ?_
  refine J_isub hd2 ?_
  rw [List.length_map, iz_nI, iz_sub]; exact k
theorem L_and15 {a : Int} (hd : decode Y.1.2.1 pc = .ok (.bipush 15, 2)) (hd1 : decode Y.1.2.1 (pc + 2) = .ok (.iand, 1)) (k : jJ l G Y d bc bs n (pc + 3) ls (vi (a % 16) :: st) h K) : jJ l G Y d bc bs n pc ls (vi a :: st) h K := by
  refine J_bipush (v := Int32.ofInt 15) hd (by decide) ?_
  refine J_iand hd1 ?_
  rw [iz_and15]; exact k
end LZ
theorem sc {xs : List Int32} {k : Int} (h0 : 0 ≤ k) (h1 : k < xs.length) : ∃ t, rg t ∧ (xs.map Value.int)[k.toNat]? = some (vi t) := by
  have hl : k.toNat < xs.length := by omega
  refine ⟨(xs[k.toNat]).toInt, ⟨Int32.le_toInt _, Int32.toInt_lt _⟩, ?_⟩
  rw [List.getElem?_map, List.getElem?_eq_getElem hl]
  show some (Value.int xs[k.toNat]) = some (.int (Int32.ofInt (xs[k.toNat]).toInt))
  rw [Int32.ofInt_toInt]
theorem law_loop (hb : BIS) {l : Launch} {G : jG} {xs : List Int32} (hx : xs.length ≤ 2560) (fu : Nat) : ∀ (i : Int) (σ : cS) (μ : mS) (n : Nat) (h : jH) (ov : Int64), R σ μ → GI xs ov σ μ h → 147 ≤ n → 0 ≤ i → i ≤ 2600 → (xs.length : Int) ≤ i + 5 * fu + 4 → jJ l G (YL, []) 11 fu (6 * fu) n 23 [some (.ref 0), some (.ref 1), some (.ref 116), some (.ref 146), some (vi i), none, none] [] h (fun o _ _ => o = .inl (some (.int 1))) := by
  induction fu with
  | zero =>
    intro i σ μ n h ov hr hg hn h0 hi hf
    refine J_iload dL_law_23 rfl ?_
    refine J_aload_n dL_law_25 rfl ?_
    refine L_slen dL_law_26 dL_law_27 dL_law_28 hg.2.2.1 ?_
    refine L_icmp_gt (tgt := 970) dL_law_29 (by decide) ⟨by omega, by omega⟩ ⟨by omega, by omega⟩ (fun z => ?_) (fun z => absurd z (by omega))
    refine J_iconst (v := 1) dL_law_970 (by decide) ?_
    exact J_zret dL_law_971 rfl (Or.inr rfl) rfl
  | succ fu IH =>
    intro i σ μ n h ov hr hg hn h0 hi hf
    refine J_iload dL_law_23 rfl ?_
    refine J_aload_n dL_law_25 rfl ?_
    refine L_slen dL_law_26 dL_law_27 dL_law_28 hg.2.2.1 ?_
    refine L_icmp_gt (tgt := 970) dL_law_29 (by decide) ⟨by omega, by omega⟩ ⟨by omega, by omega⟩ (fun z => ?_) (fun z => ?_)
    · refine J_iconst (v := 1) dL_law_970 (by decide) ?_
      exact J_zret dL_law_971 rfl (Or.inr rfl) rfl
    obtain ⟨t0, r0, g0⟩ := sc (xs := xs) (k := i) (by omega) (by omega)
    obtain ⟨t1, r1, g1⟩ := sc (xs := xs) (k := i + 1) (by omega) (by omega)
    obtain ⟨t2, r2, g2⟩ := sc (xs := xs) (k := i + 2) (by omega) (by omega)
    obtain ⟨t3, r3, g3⟩ := sc (xs := xs) (k := i + 3) (by omega) (by omega)
    obtain ⟨t4, r4, g4⟩ := sc (xs := xs) (k := i + 4) (by omega) (by omega)
    refine J_aload_n dL_law_32 rfl ?_
    refine J_iload dL_law_33 rfl ?_
    refine L_sald dL_law_35 hg.2.2.1 (by omega) (by omega) g0 ?_
    refine L_and15 dL_law_36 dL_law_38 ?_
    have nxt : ∀ (σ : cS) (μ : mS) (n : Nat) (h : jH) (ov : Int64), R σ μ → GI xs ov σ μ h → 147 ≤ n → jJ l G (YL, []) 11 fu (6 * fu) n 964 [some (.ref 0), some (.ref 1), some (.ref 116), some (.ref 146), some (vi i), none, none] [] h (fun o _ _ => o = .inl (some (.int 1))) := fun σ μ n h ov hr hg hn => by
      refine J_iinc (v := iz (i + 5)) dL_law_964 rfl (iz_add i 5) (by decide) rfl ?_
      refine J_goto (tgt := 23) dL_law_967 (by decide) ?_
      exact IH (i + 5) σ μ n h ov hr hg hn (by omega) (by omega) (by omega)
    have hm : t0 % 16 = 0 ∨ t0 % 16 = 1 ∨ t0 % 16 = 2 ∨ t0 % 16 = 3 ∨ t0 % 16 = 4 ∨ t0 % 16 = 5 ∨ t0 % 16 = 6 ∨ t0 % 16 = 7 ∨ t0 % 16 = 8 ∨ t0 % 16 = 9 ∨ t0 % 16 = 10 ∨ t0 % 16 = 11 ∨ t0 % 16 = 12 ∨ t0 % 16 = 13 ∨ t0 % 16 = 14 ∨ t0 % 16 = 15 := by omega
    show jJ l G (YL, []) 11 (fu + 1) (6 * fu + 6) n 39 [some (.ref 0), some (.ref 1), some (.ref 116), some (.ref 146), some (vi i), none, none] [vi (t0 % 16)] h (fun o _ _ => o = .inl (some (.int 1)))
    rcases hm with e | e | e | e | e | e | e | e | e | e | e | e | e | e | e | e <;> rw [e]
    · exact J_tableIn (off := 73) (tgt := 112) dL_law_39 (by decide) (by decide) (by decide) (by decide) (op_type hb hr hg hn (by omega) g1 g2 g3 g4 r1 r2 r3 r4 nxt)
    · exact J_tableIn (off := 130) (tgt := 169) dL_law_39 (by decide) (by decide) (by decide) (by decide) (op_wipe hb hr hg hn (by omega) g1 g2 g3 g4 r1 r2 r3 r4 nxt)
    · exact J_tableIn (off := 141) (tgt := 180) dL_law_39 (by decide) (by decide) (by decide) (by decide) (op_length hb hr hg hn (by omega) g1 g2 g3 g4 r1 r2 r3 r4 nxt)
    · exact J_tableIn (off := 154) (tgt := 193) dL_law_39 (by decide) (by decide) (by decide) (by decide) (op_slot hb hr hg hn (by omega) g1 g2 g3 g4 r1 r2 r3 r4 nxt)
    · exact J_tableIn (off := 262) (tgt := 301) dL_law_39 (by decide) (by decide) (by decide) (by decide) (op_open hb hr hg hn (by omega) g1 g2 g3 g4 r1 r2 r3 r4 nxt)
    · exact J_tableIn (off := 358) (tgt := 397) dL_law_39 (by decide) (by decide) (by decide) (by decide) (op_close hb hr hg hn (by omega) g1 g2 g3 g4 r1 r2 r3 r4 nxt)
    · exact J_tableIn (off := 421) (tgt := 460) dL_law_39 (by decide) (by decide) (by decide) (by decide) (op_clear hb hr hg hn (by omega) g1 g2 g3 g4 r1 r2 r3 r4 nxt)
    · exact J_tableIn (off := 484) (tgt := 523) dL_law_39 (by decide) (by decide) (by decide) (by decide) (op_read hb hr hg hn (by omega) g1 g2 g3 g4 r1 r2 r3 r4 nxt)
    · exact J_tableIn (off := 528) (tgt := 567) dL_law_39 (by decide) (by decide) (by decide) (by decide) (op_fault hb hr hg hn (by omega) g1 g2 g3 g4 r1 r2 r3 r4 nxt)
    · exact J_tableIn (off := 541) (tgt := 580) dL_law_39 (by decide) (by decide) (by decide) (by decide) (op_interchange hb hr hg hn (by omega) g1 g2 g3 g4 r1 r2 r3 r4 nxt)
    · exact J_tableIn (off := 597) (tgt := 636) dL_law_39 (by decide) (by decide) (by decide) (by decide) (op_message hb hr hg hn (by omega) g1 g2 g3 g4 r1 r2 r3 r4 nxt)
    · exact J_tableIn (off := 665) (tgt := 704) dL_law_39 (by decide) (by decide) (by decide) (by decide) (op_group hb hr hg hn (by omega) g1 g2 g3 g4 r1 r2 r3 r4 nxt)
    · exact J_tableIn (off := 721) (tgt := 760) dL_law_39 (by decide) (by decide) (by decide) (by decide) (op_segment hb hr hg hn (by omega) g1 g2 g3 g4 r1 r2 r3 r4 nxt)
    · exact J_tableIn (off := 813) (tgt := 852) dL_law_39 (by decide) (by decide) (by decide) (by decide) (op_print hb hr hg hn (by omega) g1 g2 g3 g4 r1 r2 r3 r4 nxt)
    · exact J_tableIn (off := 869) (tgt := 908) dL_law_39 (by decide) (by decide) (by decide) (by decide) (op_report hb hr hg hn (by omega) g1 g2 g3 g4 r1 r2 r3 r4 nxt)
    · refine J_tableOut (tgt := 964) dL_law_39 (by decide) (by decide) ?_
      exact jJ.widen (d' := 11) (bc' := fu) (bs' := 6 * fu) (Nat.le_refl _) (by omega) (by omega) (nxt σ μ n h ov hr hg hn)
theorem law_B (hb : BIS) (l : Launch) (G : jG) (xs : List Int32) (hx : xs.length ≤ 2560) : jJ l G (YL, []) 11 601024 7293034 1 0 [some (.ref 0), none, none, none, none, none, none] [] (jh0 xs) (fun o _ _ => o = .inl (some (.int 1))) := by
  refine J_new (N := 8) (bc := 601023) (bs := 7293026) dL_law_0 n_L_8 ?_
  refine J_dup dL_law_3 rfl ?_
  refine J_callI (As := []) (bc := 600909) (bs := 7288394) (bc' := 114) (bs' := 4632) (d' := 10) dL_law_4 i_L_55 rfl (Nat.le_of_ble_eq_true rfl) (by omega) (Nat.le_of_ble_eq_true rfl) (ini6 (by omega) jup_same) (fun E n' h' q => by cases q.1) (fun v n' h' q => ?_)
  obtain ⟨e1, e2, qa, qb⟩ := q
  cases e1; subst e2
  simp only [Option.toList, List.nil_append]
  refine J_astore_n dL_law_7 (by decide) rfl ?_
  refine J_new (N := 53) (bc := 600908) (bs := 7288341) dL_law_8 n_L_56 ?_
  refine J_dup dL_law_11 rfl ?_
  refine J_callI (As := []) (bc := 600879) (bs := 7282319) (bc' := 29) (bs' := 6022) (d' := 10) dL_law_12 i_L_58 rfl (Nat.le_of_ble_eq_true rfl) (by omega) (Nat.le_of_ble_eq_true rfl) (ini7 (by omega) jup_same) (fun E n' h' q => by cases q.1) (fun v n' h'' q => ?_)
  obtain ⟨e1, e2, m1, m2, m3, m4⟩ := q
  cases e1; subst e2
  simp only [Option.toList, List.nil_append]
  refine J_astore_n dL_law_15 (by decide) rfl ?_
  refine J_iconst (v := Int32.ofInt 1) dL_law_16 (by decide) ?_
  refine J_newa (ci := 11) (N := 1) (bc := 600878) (bs := 7282318) dL_law_17 (by decide) rfl (List.mem_of_getElem? (i := 1253) (by decide +kernel)) (by decide) (by decide) (by decide) rfl (fun _ => rfl) ?_
  refine J_astore_n dL_law_19 (by decide) rfl ?_
  refine J_iconst (v := Int32.ofInt 0) dL_law_20 (by decide) ?_
  refine J_istore dL_law_21 (by decide) rfl ?_
  refine jJ.widen (d' := 11) (bc' := 512) (bs' := 6 * 512) (Nat.le_refl _) (by omega) (by omega) ?_
  refine law_loop hb hx 512 0 σ0 μ0 147 _ 0 R0 ⟨?_, ?_, ?_, ?_⟩ (by omega) (by omega) (by omega) (by omega)
  · exact σ0_cls (fun k g1 g2 => by rw [jup_ne (by omega), m4 k g2, jup_ne (by omega)]; exact qa k g1 g2)
  · exact μ0_mod ((jup_ne (by omega)).trans m1) (fun k g1 g2 g3 => (jup_ne (by omega)).trans (m2 k g1 g2 g3)) ((jup_ne (by omega)).trans m3)
  · rw [jup_ne (by omega), m4 0 (by omega), jup_ne (by omega), qb, jup_ne (by omega)]; rfl
  · rw [jup_same]; rfl
