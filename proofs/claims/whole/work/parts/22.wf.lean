theorem wf_add {σ : cS} {r : Nat} {v : Int} (hw : wf σ) (hv : sm v) : wf (cadd σ r v) := by
  refine ⟨fun q x hx => ?_, fun q hq => ?_, hw.2.2.1, hw.2.2.2⟩
  · simp only [cadd, upR] at hx
    split at hx
    · split at hx
      · rcases List.mem_append.mp hx with h | h
        · exact hw.1 r x h
        · rw [List.mem_singleton.mp h]; exact hv
      · exact hw.1 r x hx
    · exact hw.1 q x hx
  · simp only [cadd, upR]
    split
    · rename_i e; subst e
      split
      · simp; omega
      · exact hw.2.1 q hq
    · exact hw.2.1 q hq
theorem wf_put {σ : cS} {r : Nat} {i v : Int} (hw : wf σ) (hv : sm v) : wf (cput σ r i v) := by
  refine ⟨fun q x hx => ?_, fun q hq => ?_, hw.2.2.1, hw.2.2.2⟩
  · simp only [cput, upR] at hx
    split at hx
    · split at hx
      · rcases List.mem_or_eq_of_mem_set hx with h | h
        · exact hw.1 r x h
        · rw [h]; exact hv
      · exact hw.1 r x hx
    · exact hw.1 q x hx
  · simp only [cput, upR]
    split
    · rename_i e; subst e
      split
      · rw [List.length_set]; exact hw.2.1 q hq
      · exact hw.2.1 q hq
    · exact hw.2.1 q hq
theorem wf_emp {σ : cS} {r : Nat} (hw : wf σ) : wf (cemp σ r) := by
  refine ⟨fun q x hx => ?_, fun q hq => ?_, hw.2.2.1, hw.2.2.2⟩
  · simp only [cemp, upR] at hx
    split at hx
    · cases hx
    · exact hw.1 q x hx
  · simp only [cemp, upR]
    split
    · exact Nat.zero_le _
    · exact hw.2.1 q hq
/-- an int field is written -/
def cI (σ : cS) (p k : Nat) (v : Int) : cS := (σ.1, upI σ.2.1 p k v, σ.2.2)
theorem wf_I {σ : cS} {p k : Nat} {v : Int} (hw : wf σ) (hv : sm v) : wf (cI σ p k v) := by
  refine ⟨hw.1, hw.2.1, fun q j => ?_, hw.2.2.2⟩
  simp only [cI, upI]
  split
  · exact hv
  · exact hw.2.2.1 q j
theorem wf.kept {σ : cS} (hw : wf σ) : kd σ.2.2 = 0 := by rcases hw.2.2.2 with e | e <;> rw [e] <;> decide
theorem wf.fresh {σ : cS} (hw : wf σ) : kd (54 - σ.2.2) = 0 := by rcases hw.2.2.2 with e | e <;> rw [e] <;> decide
theorem kd2 : kd 2 = 5 := by decide
theorem kd6 : kd 6 = 1 := by decide
theorem kd9 : kd 9 = 1 := by decide
theorem kP1 {p : Nat} (h : kd p = 2) : kd (p + 1) = 3 := kd_all (c := 2) (Q := fun p => kd (p + 1) = 3) (by decide) (by decide) h
theorem kP3 {p : Nat} (h : kd p = 2) : kd (p + 3) = 3 := kd_all (c := 2) (Q := fun p => kd (p + 3) = 3) (by decide) (by decide) h
theorem kP5 {p : Nat} (h : kd p = 2) : kd (p + 5) = 3 := kd_all (c := 2) (Q := fun p => kd (p + 5) = 3) (by decide) (by decide) h
theorem kP7 {p : Nat} (h : kd p = 2) : kd (p + 7) = 3 := kd_all (c := 2) (Q := fun p => kd (p + 7) = 3) (by decide) (by decide) h
theorem kP9 {p : Nat} (h : kd p = 2) : kd (p + 9) = 3 := kd_all (c := 2) (Q := fun p => kd (p + 9) = 3) (by decide) (by decide) h
theorem kE1 {p : Nat} (h : kd p = 0) : kd (p + 1) = 2 := kd_all (c := 0) (Q := fun p => kd (p + 1) = 2) (by decide) (by decide) h
theorem kE12 {p : Nat} (h : kd p = 0) : kd (p + 12) = 3 := kd_all (c := 0) (Q := fun p => kd (p + 12) = 3) (by decide) (by decide) h
theorem kE14 {p : Nat} (h : kd p = 0) : kd (p + 14) = 3 := kd_all (c := 0) (Q := fun p => kd (p + 14) = 3) (by decide) (by decide) h
theorem kE16 {p : Nat} (h : kd p = 0) : kd (p + 16) = 3 := kd_all (c := 0) (Q := fun p => kd (p + 16) = 3) (by decide) (by decide) h
theorem kE18 {p : Nat} (h : kd p = 0) : kd (p + 18) = 3 := kd_all (c := 0) (Q := fun p => kd (p + 18) = 3) (by decide) (by decide) h
theorem kE20 {p : Nat} (h : kd p = 0) : kd (p + 20) = 3 := kd_all (c := 0) (Q := fun p => kd (p + 20) = 3) (by decide) (by decide) h
theorem kE22 {p : Nat} (h : kd p = 0) : kd (p + 22) = 3 := kd_all (c := 0) (Q := fun p => kd (p + 22) = 3) (by decide) (by decide) h
theorem kE24 {p : Nat} (h : kd p = 0) : kd (p + 24) = 3 := kd_all (c := 0) (Q := fun p => kd (p + 24) = 3) (by decide) (by decide) h
theorem kE26 {p : Nat} (h : kd p = 0) : kd (p + 26) = 3 := kd_all (c := 0) (Q := fun p => kd (p + 26) = 3) (by decide) (by decide) h
theorem kE28 {p : Nat} (h : kd p = 0) : kd (p + 28) = 3 := kd_all (c := 0) (Q := fun p => kd (p + 28) = 3) (by decide) (by decide) h
theorem kT1 {p : Nat} (h : kd p = 4) : kd (p + 1) = 3 := kd_all (c := 4) (Q := fun p => kd (p + 1) = 3) (by decide) (by decide) h
theorem kT3 {p : Nat} (h : kd p = 4) : kd (p + 3) = 3 := kd_all (c := 4) (Q := fun p => kd (p + 3) = 3) (by decide) (by decide) h
theorem kT5 {p : Nat} (h : kd p = 4) : kd (p + 5) = 3 := kd_all (c := 4) (Q := fun p => kd (p + 5) = 3) (by decide) (by decide) h
theorem kT7 {p : Nat} (h : kd p = 4) : kd (p + 7) = 3 := kd_all (c := 4) (Q := fun p => kd (p + 7) = 3) (by decide) (by decide) h
theorem kT9 {p : Nat} (h : kd p = 4) : kd (p + 9) = 3 := kd_all (c := 4) (Q := fun p => kd (p + 9) = 3) (by decide) (by decide) h
theorem kX1 {p : Nat} (h : kd p = 5) : kd (p + 1) = 3 := kd_all (c := 5) (Q := fun p => kd (p + 1) = 3) (by decide) (by decide) h
theorem kQ1 {p : Nat} (h : kd p = 1) : kd (p + 1) = 3 := kd_all (c := 1) (Q := fun p => kd (p + 1) = 3) (by decide) (by decide) h
theorem ownT {p : Nat} (h : kd p = 4) : jown p := kd_all (c := 4) (Q := fun p => jown p) (by decide) (by unfold jown; decide) h
theorem ownE {p : Nat} (h : kd p = 0) : jown p := kd_all (c := 0) (Q := fun p => jown p) (by decide) (by unfold jown; decide) h
theorem ownX {p : Nat} (h : kd p = 5) : jown p := kd_all (c := 5) (Q := fun p => jown p) (by decide) (by unfold jown; decide) h
/-- an object's cell is written: the rest stands -/
theorem jCls.obj {h : jH} {σ : cS} {p k : Nat} {v : Int} {c : Nat × List Value} {kk : Nat} (hc : jCls h σ) (hp : kd p = kk) (hk3 : kk ≠ 3) (hk10 : kk ≠ 10) (hk2 : kk ≠ 2) (hk1 : kk ≠ 1) (hk13 : kk ≠ 13) (hk6 : kk ≠ 6)
    (h0 : kk = 0 → c = (0, [.ref (p + 1), .ref (p + 12), .ref (p + 14), .ref (p + 16), .ref (p + 18), .ref (p + 20), .ref (p + 22), .ref (p + 24), .ref (p + 26), .ref (p + 28), vi (upI σ.2.1 p k v p 10), vi (upI σ.2.1 p k v p 11)]))
    (h4 : kk = 4 → c = (4, [.ref (p + 1), .ref (p + 3), .ref (p + 5), .ref (p + 7), vi (upI σ.2.1 p k v p 4), vi (upI σ.2.1 p k v p 5), .ref (p + 9), vi (upI σ.2.1 p k v p 7), vi (upI σ.2.1 p k v p 8)]))
    (h5 : kk = 5 → c = (5, [.ref (p + 1), vi (upI σ.2.1 p k v p 1), vi (upI σ.2.1 p k v p 2), vi (upI σ.2.1 p k v p 3), vi (upI σ.2.1 p k v p 4), vi (upI σ.2.1 p k v p 5)])) : jCls (jup h p c) (cI σ p k v) := by
  obtain ⟨g1, g2, g3, g4, g5, g6, g7, g8⟩ := hc
  have ne : ∀ {q c' : Nat}, kd q = c' → c' ≠ kk → jup h p c q = h q := fun hq n => jup_ne (fun e => n (by rw [← hq, e, hp]))
  have iI : ∀ {q j : Nat}, q ≠ p → upI σ.2.1 p k v q j = σ.2.1 q j := fun hq => by simp [upI, hq]
  refine ⟨fun r hr => ?_, fun q hq => by rw [ne hq (Ne.symm hk2)]; exact g2 q hq, fun q hq => ?_, fun q hq => ?_, fun q hq => ?_, fun q hq => by rw [ne hq (Ne.symm hk1)]; exact g6 q hq, by rw [ne (c' := 13) (by decide) (Ne.symm hk13)]; exact g7, ?_⟩
  · obtain ⟨x1, ys, x2, x3⟩ := g1 r hr
    exact ⟨(ne hr (Ne.symm hk3)).trans x1, ys, (ne (kd_row hr).1 (Ne.symm hk10)).trans x2, x3⟩
  · by_cases e : q = p
    · subst e; rw [jup_same]; exact h0 (hp.symm.trans hq)
    · rw [jup_ne e, g3 q hq]; simp only [cI, iI e]
  · by_cases e : q = p
    · subst e; rw [jup_same]; exact h4 (hp.symm.trans hq)
    · rw [jup_ne e, g4 q hq]; simp only [cI, iI e]
  · by_cases e : q = p
    · subst e; rw [jup_same]; exact h5 (hp.symm.trans hq)
    · rw [jup_ne e, g5 q hq]; simp only [cI, iI e]
  · have e : (1 : Nat) ≠ p := fun e => hk6 (by rw [← hp, ← e]; decide)
    rw [jup_ne e, g8]; simp only [cI, iI e]
theorem jCls.putT4 {h : jH} {σ : cS} {p : Nat} {v : Int} (hc : jCls h σ) (hp : kd p = 4) : ∃ fs, h p = (4, fs) ∧ 4 < fs.length ∧ jCls (jup h p (4, fs.set 4 (vi v))) (cI σ p 4 v) :=
  ⟨_, hc.2.2.2.1 p hp, Nat.le_of_ble_eq_true rfl, hc.obj (kk := 4) hp (by decide) (by decide) (by decide) (by decide) (by decide) (by decide) (fun e => absurd e (by decide)) (fun _ => by simp [upI]) (fun e => absurd e (by decide))⟩
theorem jCls.putT5 {h : jH} {σ : cS} {p : Nat} {v : Int} (hc : jCls h σ) (hp : kd p = 4) : ∃ fs, h p = (4, fs) ∧ 5 < fs.length ∧ jCls (jup h p (4, fs.set 5 (vi v))) (cI σ p 5 v) :=
  ⟨_, hc.2.2.2.1 p hp, Nat.le_of_ble_eq_true rfl, hc.obj (kk := 4) hp (by decide) (by decide) (by decide) (by decide) (by decide) (by decide) (fun e => absurd e (by decide)) (fun _ => by simp [upI]) (fun e => absurd e (by decide))⟩
theorem jCls.putT7 {h : jH} {σ : cS} {p : Nat} {v : Int} (hc : jCls h σ) (hp : kd p = 4) : ∃ fs, h p = (4, fs) ∧ 7 < fs.length ∧ jCls (jup h p (4, fs.set 7 (vi v))) (cI σ p 7 v) :=
  ⟨_, hc.2.2.2.1 p hp, Nat.le_of_ble_eq_true rfl, hc.obj (kk := 4) hp (by decide) (by decide) (by decide) (by decide) (by decide) (by decide) (fun e => absurd e (by decide)) (fun _ => by simp [upI]) (fun e => absurd e (by decide))⟩
theorem jCls.putT8 {h : jH} {σ : cS} {p : Nat} {v : Int} (hc : jCls h σ) (hp : kd p = 4) : ∃ fs, h p = (4, fs) ∧ 8 < fs.length ∧ jCls (jup h p (4, fs.set 8 (vi v))) (cI σ p 8 v) :=
  ⟨_, hc.2.2.2.1 p hp, Nat.le_of_ble_eq_true rfl, hc.obj (kk := 4) hp (by decide) (by decide) (by decide) (by decide) (by decide) (by decide) (fun e => absurd e (by decide)) (fun _ => by simp [upI]) (fun e => absurd e (by decide))⟩
theorem jCls.putE10 {h : jH} {σ : cS} {p : Nat} {v : Int} (hc : jCls h σ) (hp : kd p = 0) : ∃ fs, h p = (0, fs) ∧ 10 < fs.length ∧ jCls (jup h p (0, fs.set 10 (vi v))) (cI σ p 10 v) :=
  ⟨_, hc.2.2.1 p hp, Nat.le_of_ble_eq_true rfl, hc.obj (kk := 0) hp (by decide) (by decide) (by decide) (by decide) (by decide) (by decide) (fun _ => by simp [upI]) (fun e => absurd e (by decide)) (fun e => absurd e (by decide))⟩
theorem jCls.putE11 {h : jH} {σ : cS} {p : Nat} {v : Int} (hc : jCls h σ) (hp : kd p = 0) : ∃ fs, h p = (0, fs) ∧ 11 < fs.length ∧ jCls (jup h p (0, fs.set 11 (vi v))) (cI σ p 11 v) :=
  ⟨_, hc.2.2.1 p hp, Nat.le_of_ble_eq_true rfl, hc.obj (kk := 0) hp (by decide) (by decide) (by decide) (by decide) (by decide) (by decide) (fun _ => by simp [upI]) (fun e => absurd e (by decide)) (fun e => absurd e (by decide))⟩
theorem jCls.putX1 {h : jH} {σ : cS} {p : Nat} {v : Int} (hc : jCls h σ) (hp : kd p = 5) : ∃ fs, h p = (5, fs) ∧ 1 < fs.length ∧ jCls (jup h p (5, fs.set 1 (vi v))) (cI σ p 1 v) :=
  ⟨_, hc.2.2.2.2.1 p hp, Nat.le_of_ble_eq_true rfl, hc.obj (kk := 5) hp (by decide) (by decide) (by decide) (by decide) (by decide) (by decide) (fun e => absurd e (by decide)) (fun e => absurd e (by decide)) (fun _ => by simp [upI])⟩
theorem jCls.putX2 {h : jH} {σ : cS} {p : Nat} {v : Int} (hc : jCls h σ) (hp : kd p = 5) : ∃ fs, h p = (5, fs) ∧ 2 < fs.length ∧ jCls (jup h p (5, fs.set 2 (vi v))) (cI σ p 2 v) :=
  ⟨_, hc.2.2.2.2.1 p hp, Nat.le_of_ble_eq_true rfl, hc.obj (kk := 5) hp (by decide) (by decide) (by decide) (by decide) (by decide) (by decide) (fun e => absurd e (by decide)) (fun e => absurd e (by decide)) (fun _ => by simp [upI])⟩
theorem jCls.putX3 {h : jH} {σ : cS} {p : Nat} {v : Int} (hc : jCls h σ) (hp : kd p = 5) : ∃ fs, h p = (5, fs) ∧ 3 < fs.length ∧ jCls (jup h p (5, fs.set 3 (vi v))) (cI σ p 3 v) :=
  ⟨_, hc.2.2.2.2.1 p hp, Nat.le_of_ble_eq_true rfl, hc.obj (kk := 5) hp (by decide) (by decide) (by decide) (by decide) (by decide) (by decide) (fun e => absurd e (by decide)) (fun e => absurd e (by decide)) (fun _ => by simp [upI])⟩
theorem jCls.putX4 {h : jH} {σ : cS} {p : Nat} {v : Int} (hc : jCls h σ) (hp : kd p = 5) : ∃ fs, h p = (5, fs) ∧ 4 < fs.length ∧ jCls (jup h p (5, fs.set 4 (vi v))) (cI σ p 4 v) :=
  ⟨_, hc.2.2.2.2.1 p hp, Nat.le_of_ble_eq_true rfl, hc.obj (kk := 5) hp (by decide) (by decide) (by decide) (by decide) (by decide) (by decide) (fun e => absurd e (by decide)) (fun e => absurd e (by decide)) (fun _ => by simp [upI])⟩
theorem jCls.putX5 {h : jH} {σ : cS} {p : Nat} {v : Int} (hc : jCls h σ) (hp : kd p = 5) : ∃ fs, h p = (5, fs) ∧ 5 < fs.length ∧ jCls (jup h p (5, fs.set 5 (vi v))) (cI σ p 5 v) :=
  ⟨_, hc.2.2.2.2.1 p hp, Nat.le_of_ble_eq_true rfl, hc.obj (kk := 5) hp (by decide) (by decide) (by decide) (by decide) (by decide) (by decide) (fun e => absurd e (by decide)) (fun e => absurd e (by decide)) (fun _ => by simp [upI])⟩
def bz (b : Bool) : Int := if b then 1 else 0
theorem bz_01 (b : Bool) : Int32.ofInt (bz b) = 0 ∨ Int32.ofInt (bz b) = 1 := by cases b <;> simp [bz]
theorem bz_rg (b : Bool) : rg (bz b) := by cases b <;> exact ⟨by decide, by decide⟩
section CZ
variable {S : Type} {inv : jH → S → Prop} {own : Nat → Prop} {l : Launch} {G : jG} {Y : jY} {d bc bs pc : Nat} {ls : List (Option Value)} {st : List Value} {σ : S} {P : jO → S → Prop}
theorem C_if_eqZ {b : Bool} {off : Int} {tgt : Nat} (hd : decode Y.1.2.1 pc = .ok (.ifCond .eq off, 3)) (ht : (pc : Int) + off = (tgt : Int)) (kt : b = false → CJ inv own l G Y d bc bs tgt ls st σ P) (kf : b = true → CJ inv own l G Y d bc bs (pc + 3) ls st σ P) : CJ inv own l G Y d bc bs pc ls (vi (bz b) :: st) σ P :=
  C_if_eq hd ht (bz_rg b) (fun h => kt (by cases b; rfl; exact absurd h (by decide))) (fun h => kf (by cases b; exact absurd rfl h; rfl))
theorem C_if_neZ {b : Bool} {off : Int} {tgt : Nat} (hd : decode Y.1.2.1 pc = .ok (.ifCond .ne off, 3)) (ht : (pc : Int) + off = (tgt : Int)) (kt : b = true → CJ inv own l G Y d bc bs tgt ls st σ P) (kf : b = false → CJ inv own l G Y d bc bs (pc + 3) ls st σ P) : CJ inv own l G Y d bc bs pc ls (vi (bz b) :: st) σ P :=
  C_if_ne hd ht (bz_rg b) (fun h => kt (by cases b; exact absurd rfl h; rfl)) (fun h => kf (by cases b; rfl; exact absurd h (by decide)))
end CZ
theorem jfin0 : ((0 : Fin 4) : Nat) = 0 := rfl
theorem jfin1 : ((1 : Fin 4) : Nat) = 1 := rfl
theorem jfin2 : ((2 : Fin 4) : Nat) = 2 := rfl
theorem jfin3 : ((3 : Fin 4) : Nat) = 3 := rfl
theorem rat_in (xs : List Int) (i : Int) : rat xs i = -1 ∨ (0 ≤ i ∧ i < xs.length) := by
  unfold rat
  split
  · rcases Nat.lt_or_ge i.toNat xs.length with q | q
    · exact Or.inr ⟨by assumption, by omega⟩
    · left; rw [List.getD_eq_getElem?_getD, List.getElem?_eq_none q]; rfl
  · exact Or.inl rfl
theorem wf.ra2 {σ : cS} (hw : wf σ) {r : Nat} (hr : kd r = 3) (i : Int) : (-3000 ≤ rat (σ.1 r) i ∧ rat (σ.1 r) i < 100000000) ∧ (rat (σ.1 r) i = -1 ∨ (0 ≤ i ∧ i < (σ.1 r).length)) ∧ ((σ.1 r).length : Int) ≤ 2000 := ⟨hw.ra r i, rat_in _ i, hw.len hr⟩
