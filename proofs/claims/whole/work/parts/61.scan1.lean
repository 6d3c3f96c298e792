/-! the scan: what class and model hold in the midst of it -/
/-- marks -/
def MK (σ : cS) (ν : mS) : Prop := σ.2.1 2 2 = ν.1 9 ∧ σ.2.1 2 3 = ν.1 10 ∧ σ.2.1 2 4 = ν.1 11 ∧ σ.2.1 2 5 = ν.1 12 ∧ (0 < ν.1 9 ∧ 0 < ν.1 10 ∧ 0 ≤ ν.1 11 ∧ 0 < ν.1 12) ∧ (ν.1 9 ≠ ν.1 10 ∧ ν.1 9 ≠ ν.1 12 ∧ ν.1 10 ≠ ν.1 12 ∧ ν.1 11 ≠ ν.1 9 ∧ ν.1 11 ≠ ν.1 10 ∧ ν.1 11 ≠ ν.1 12)
def SX (σ : cS) (ν : mS) : Prop := rowIs (σ.1 3) (ν.2 2) 0 (ν.1 1) ∧ (∀ j, 0 ≤ j → j < ν.1 1 → 32 ≤ mat (ν.2 2) j) ∧ ν.1 1 ≤ 400 ∧ MK σ ν
def LN (ν : mS) : Prop := (ν.2 15).length = 41 ∧ (ν.2 16).length = 42 ∧ (ν.2 18).length = 124 ∧ (ν.2 20).length = 124 ∧ (ν.2 22).length = 400
/-- the numbers of parts; b tags are there -/
def SK (ν : mS) (i b : Int) : Prop :=
  (0 ≤ ν.1 14 ∧ ν.1 14 ≤ 40 ∧ 0 ≤ ν.1 17 ∧ ν.1 17 ≤ ν.1 19 ∧ ν.1 19 ≤ 120 ∧ 0 ≤ ν.1 21) ∧
  (b = ν.1 14 ∧ 4 * ν.1 14 + ν.1 19 + ν.1 21 ≤ i ∧ mat (ν.2 16) (ν.1 14) = ν.1 17 ∨ b = ν.1 14 + 1 ∧ ν.1 14 < 40 ∧ 4 * ν.1 14 + 3 + ν.1 19 + ν.1 21 ≤ i ∧ mat (ν.2 16) (ν.1 14) ≤ ν.1 17) ∧
  (∀ s, 0 ≤ s → s < b → 4276545 ≤ mat (ν.2 15) s) ∧
  (mat (ν.2 16) 0 = 0 ∧ ∀ s, 0 ≤ s → s < ν.1 14 → mat (ν.2 16) s ≤ mat (ν.2 16) (s + 1)) ∧
  (mat (ν.2 18) 0 = 0 ∧ mat (ν.2 18) (ν.1 17) = ν.1 19 ∧ ∀ x, 0 ≤ x → x < ν.1 17 → mat (ν.2 18) x < mat (ν.2 18) (x + 1)) ∧
  (mat (ν.2 20) 0 = 0 ∧ mat (ν.2 20) (ν.1 19) = ν.1 21 ∧ ∀ c, 0 ≤ c → c < ν.1 19 → mat (ν.2 20) c ≤ mat (ν.2 20) (c + 1))
def SW (σ : cS) (ν : mS) (p : Nat) (b : Int) : Prop := rowIs (σ.1 (p + 1)) (ν.2 15) 0 b ∧ rowIs (σ.1 (p + 3)) (ν.2 16) 0 b ∧ rowIs (σ.1 (p + 5)) (ν.2 18) 0 (ν.1 17) ∧ rowIs (σ.1 (p + 7)) (ν.2 20) 0 (ν.1 19) ∧ rowIs (σ.1 (p + 9)) (ν.2 22) 0 (ν.1 21)
def SR (σ : cS) (ν : mS) (p : Nat) (i b : Int) : Prop := SX σ ν ∧ (σ.2.1 2 1 = i ∧ 0 ≤ i ∧ i ≤ ν.1 1) ∧ SW σ ν p b ∧ LN ν ∧ SK ν i b
/-- the model's scan from i on -/
def mrun (i a : Int) (ν : mS) : Bool × mS := c_mscansL (402 - i).toNat i a ν
theorem mrun_step {i a : Int} {ν : mS} (h0 : 0 ≤ i) (h1 : i < ν.1 1) (h2 : ν.1 1 ≤ 400) (ha : 0 ≤ a) : mrun i a ν = mrun (i + 1) (c_mnext (mfl ν 13 i) a (mat (ν.2 2) i)).1 (c_mnext (mfl ν 13 i) a (mat (ν.2 2) i)).2 := by
  unfold mrun
  have e : (402 - i).toNat = (402 - (i + 1)).toNat + 1 := by omega
  rw [e, c_mscansL, if_neg (by omega), if_neg (by omega)]
theorem mrun_bad {i a : Int} {ν : mS} (h0 : 0 ≤ i) (h1 : i ≤ 401) (ha : a < 0) : mrun i a ν = (false, ν) := by
  unfold mrun
  have e : (402 - i).toNat = (401 - i).toNat + 1 := by omega
  rw [e, c_mscansL]
  by_cases c : ν.1 1 ≤ i
  · rw [if_pos c, if_neg (by omega)]
  · rw [if_neg c, if_pos ha, if_neg (by omega)]
theorem mrun_end {i a : Int} {ν : mS} (h0 : 0 ≤ i) (h1 : i ≤ 401) (hl : ν.1 1 ≤ i) (ha : 0 ≤ a) : mrun i a ν = (decide (a = 0 ∧ 0 < ν.1 14), mfl ν 13 (ν.1 1)) := by
  unfold mrun
  have e : (402 - i).toNat = (401 - i).toNat + 1 := by omega
  rw [e, c_mscansL, if_pos hl, if_pos ha]
  by_cases c : a = 0
  · rw [if_pos c]
    by_cases c2 : ν.1 14 ≤ 0
    · rw [if_pos c2, decide_eq_false (by omega)]
    · rw [if_neg c2, decide_eq_true (by omega)]
  · rw [if_neg c, decide_eq_false (by omega)]
theorem rowIs_ext {row arr : List Int} {n v : Int} (h : rowIs row arr 0 n) (hv : mat arr n = v) : rowIs (row ++ [v]) arr 0 (n + 1) := by
  obtain ⟨h1, h2⟩ := h
  refine ⟨by rw [List.length_append]; simp; omega, fun i g0 g1 => ?_⟩
  by_cases e : i = n
  · subst e; rw [rat_last (by omega), Int.zero_add, hv]
  · rw [rat_app g0 (by omega)]; exact h2 i g0 (by omega)
theorem cadd_eq {σ : cS} {r : Nat} {v : Int} (h : (σ.1 r).length < cap r) : cadd σ r v = (upR σ.1 r (σ.1 r ++ [v]), σ.2) := by unfold cadd; rw [if_pos h]
/-- the character at i -/
theorem SR.chr {σ : cS} {ν : mS} {p : Nat} {i b : Int} (h : SR σ ν p i b) (j : Int) : rat (σ.1 3) j = if 0 ≤ j ∧ j < ν.1 1 then mat (ν.2 2) j else -1 := rat_get h.1.1
theorem SR.f13 {σ : cS} {ν : mS} {p : Nat} {i b v : Int} (h : SR σ ν p i b) : SR σ (mfl ν 13 v) p i b := h
/-- further on in the text -/
theorem SR.go {σ : cS} {ν : mS} {p : Nat} {i b j : Int} (h : SR σ ν p i b) (hj : i ≤ j) (hl : j ≤ ν.1 1) : SR (cI σ 2 1 j) ν p j b := by
  obtain ⟨⟨x1, x2, x3, m1, m2, m3, m4, m5, m6⟩, ⟨p1, p2, p3⟩, w, l, k0, k1, k2⟩ := h
  refine ⟨⟨x1, x2, x3, ?_, ?_, ?_, ?_, m5, m6⟩, ⟨?_, by omega, hl⟩, w, l, k0, ?_, k2⟩
  · show upI σ.2.1 2 1 j 2 2 = _; simp [upI]; exact m1
  · show upI σ.2.1 2 1 j 2 3 = _; simp [upI]; exact m2
  · show upI σ.2.1 2 1 j 2 4 = _; simp [upI]; exact m3
  · show upI σ.2.1 2 1 j 2 5 = _; simp [upI]; exact m4
  · show upI σ.2.1 2 1 j 2 1 = _; simp [upI]
  · rcases k1 with q | q
    · exact Or.inl ⟨q.1, by omega, q.2.2⟩
    · exact Or.inr ⟨q.1, q.2.1, by omega, q.2.2.2⟩
theorem put_1 {ν : mS} {c : Int} : (c_mput ν c).1 = upF ν.1 21 (ν.1 21 + 1) := rfl
theorem put_2 {ν : mS} {c : Int} : (c_mput ν c).2 = upF (upF ν.2 22 ((ν.2 22).set (ν.1 21).toNat c)) 20 ((ν.2 20).set (ν.1 19).toNat (ν.1 21 + 1)) := rfl
/-- a character is taken -/
theorem SR.put {σ : cS} {ν : mS} {p : Nat} {i b c j : Int} (hp : kd p = 2) (hp2 : 13 ≤ p) (h : SR σ ν p i b) (hb : b = ν.1 14 + 1) (hC : 1 ≤ ν.1 19) (hj : i < j) (hl : j ≤ ν.1 1) : SR (cI (c_addCharacter σ p c) 2 1 j) (c_mput ν c) p j b := by
  obtain ⟨⟨x1, x2, x3, m1, m2, m3, m4, m5, m6⟩, ⟨p1, p2, p3⟩, ⟨w1, w2, w3, w4, w5⟩, ⟨l1, l2, l3, l4, l5⟩, k0, k1, k2, k3, k4, k5⟩ := h
  have kk : ν.1 14 < 40 ∧ 4 * ν.1 14 + 3 + ν.1 19 + ν.1 21 ≤ i ∧ mat (ν.2 16) (ν.1 14) ≤ ν.1 17 := by
    rcases k1 with q | q
    · omega
    · exact q.2
  have e : c_addCharacter σ p c = (upR σ.1 (p + 9) (σ.1 (p + 9) ++ [c]), σ.2) := cadd_eq (by have := w5.1; rw [cap2_9 hp]; omega)
  have f1 : ∀ k, k ≠ 21 → (c_mput ν c).1 k = ν.1 k := fun k hk => by rw [put_1]; simp [upF, hk]
  have f2 : ∀ k, k ≠ 22 → k ≠ 20 → (c_mput ν c).2 k = ν.2 k := fun k h1 h2 => by rw [put_2]; simp [upF, h1, h2]
  have f21 : (c_mput ν c).1 21 = ν.1 21 + 1 := by rw [put_1]; simp [upF]
  have f22 : (c_mput ν c).2 22 = (ν.2 22).set (ν.1 21).toNat c := by rw [put_2]; simp [upF]
  have f20 : (c_mput ν c).2 20 = (ν.2 20).set (ν.1 19).toNat (ν.1 21 + 1) := by rw [put_2]; simp [upF]
  have r0 : ∀ r, r ≠ p + 9 → (cI (c_addCharacter σ p c) 2 1 j).1 r = σ.1 r := fun r hr => by rw [e]; show upR _ _ _ r = _; exact upR_ne hr
  have r9 : (cI (c_addCharacter σ p c) 2 1 j).1 (p + 9) = σ.1 (p + 9) ++ [c] := by rw [e]; show upR _ _ _ _ = _; exact upR_same
  have i0 : ∀ k, k ≠ 1 → (cI (c_addCharacter σ p c) 2 1 j).2.1 2 k = σ.2.1 2 k := fun k hk => by rw [e]; show upI σ.2.1 2 1 j 2 k = _; simp [upI, hk]
  unfold SR SX MK SW LN SK
  rw [r0 3 (by omega), r0 (p + 1) (by omega), r0 (p + 3) (by omega), r0 (p + 5) (by omega), r0 (p + 7) (by omega), r9, i0 2 (by omega), i0 3 (by omega), i0 4 (by omega), i0 5 (by omega), f1 1 (by omega), f1 9 (by omega), f1 10 (by omega), f1 11 (by omega), f1 12 (by omega), f1 14 (by omega), f1 17 (by omega), f1 19 (by omega), f21, f2 2 (by omega) (by omega), f2 15 (by omega) (by omega), f2 16 (by omega) (by omega), f2 18 (by omega) (by omega), f20, f22]
  refine ⟨⟨x1, x2, x3, m1, m2, m3, m4, m5, m6⟩, ⟨?_, by omega, hl⟩, ⟨w1, w2, w3, rowIs_out w4 (by omega) (by omega) (by omega), ?_⟩, ⟨l1, l2, l3, by rw [List.length_set]; exact l4, by rw [List.length_set]; exact l5⟩, by omega, Or.inr ⟨hb, kk.1, by omega, kk.2.2⟩, k2, k3, k4, ⟨?_, mat_set (by omega), fun x g0 g1 => ?_⟩⟩
  · rw [e]; show upI σ.2.1 2 1 j 2 1 = _; simp [upI]
  · have := rowIs_add (v := c) w5 (by omega) (by omega)
    rw [Int.zero_add] at this; exact this
  · rw [mat_set_ne (by omega)]; exact k5.1
  · rw [mat_set_ne (by omega)]
    have y := k5.2.2 x g0 g1
    by_cases ex : x + 1 = ν.1 19
    · rw [ex, mat_set (by omega)]; rw [ex, k5.2.1] at y; omega
    · rw [mat_set_ne (by omega)]; exact y
