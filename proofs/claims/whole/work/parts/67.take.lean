/-! what take copies -/
theorem cp_4 (fu : Nat) : ∀ (k : Int) (ν : mS), 0 ≤ k → ν.1 21 + 1 - k ≤ (fu : Int) → 1 ≤ (fu : Int) → ν.1 21 ≤ ((ν.2 31).length : Int) → ∃ ν' : mS, c_mtakeL4 fu k ν = c_mtakeL5 41 1 (mfl (mfl ν' 33 0) 39 0) ∧ ν'.1 = ν.1 ∧ (∀ j, j ≠ 31 → ν'.2 j = ν.2 j) ∧ (ν'.2 31).length = (ν.2 31).length ∧ (∀ x, 0 ≤ x → x < k → mat (ν'.2 31) x = mat (ν.2 31) x) ∧ (∀ x, k ≤ x → x < ν.1 21 → mat (ν'.2 31) x = mat (ν.2 22) x) := by
  induction fu with
  | zero => intro k ν _ _ h; omega
  | succ fu ih =>
    intro k ν h0 hf h1 h31
    rw [c_mtakeL4]
    by_cases c : ν.1 21 ≤ k
    · rw [if_pos c]
      exact ⟨ν, rfl, rfl, fun j _ => rfl, rfl, fun x _ _ => rfl, fun x g0 g1 => by omega⟩
    · rw [if_neg c]
      have e31 : (mar ν 31 k (mat (ν.2 22) k)).2 31 = (ν.2 31).set k.toNat (mat (ν.2 22) k) := by simp [mar, upF]
      have e22 : (mar ν 31 k (mat (ν.2 22) k)).2 22 = ν.2 22 := by simp [mar, upF]
      obtain ⟨ν', q1, q2, q3, l31, o31, n31⟩ := ih (k + 1) (mar ν 31 k (mat (ν.2 22) k)) (by omega) (by show ν.1 21 + 1 - (k + 1) ≤ _; omega) (by omega) (by rw [e31, List.length_set]; exact h31)
      refine ⟨ν', q1, q2, fun j b31 => (q3 j b31).trans (by simp [mar, upF, b31]), by rw [l31, e31, List.length_set], fun x g0 g1 => ?_, fun x g0 g1 => ?_⟩
      · rw [o31 x g0 (by omega), e31, mat_set_ne (by omega)]
      · by_cases ex : x = k
        · subst ex; rw [o31 x h0 (by omega), e31, mat_set (by omega)]
        · rw [n31 x (by omega) g1, e22]
theorem cp_3 (fu : Nat) : ∀ (k : Int) (ν : mS), 0 ≤ k → ν.1 29 + 2 - k ≤ (fu : Int) → 1 ≤ (fu : Int) → ν.1 29 < ((ν.2 30).length : Int) → ∃ ν' : mS, c_mtakeL3 fu k ν = c_mtakeL4 401 0 ν' ∧ ν'.1 = ν.1 ∧ (∀ j, j ≠ 30 → ν'.2 j = ν.2 j) ∧ (ν'.2 30).length = (ν.2 30).length ∧ (∀ x, 0 ≤ x → x < k → mat (ν'.2 30) x = mat (ν.2 30) x) ∧ (∀ x, k ≤ x → x ≤ ν.1 29 → mat (ν'.2 30) x = mat (ν.2 20) x) := by
  induction fu with
  | zero => intro k ν _ _ h; omega
  | succ fu ih =>
    intro k ν h0 hf h1 h30
    rw [c_mtakeL3]
    by_cases c : ν.1 29 < k
    · rw [if_pos c]
      exact ⟨ν, rfl, rfl, fun j _ => rfl, rfl, fun x _ _ => rfl, fun x g0 g1 => by omega⟩
    · rw [if_neg c]
      have e30 : (mar ν 30 k (mat (ν.2 20) k)).2 30 = (ν.2 30).set k.toNat (mat (ν.2 20) k) := by simp [mar, upF]
      have e20 : (mar ν 30 k (mat (ν.2 20) k)).2 20 = ν.2 20 := by simp [mar, upF]
      obtain ⟨ν', q1, q2, q3, l30, o30, n30⟩ := ih (k + 1) (mar ν 30 k (mat (ν.2 20) k)) (by omega) (by show ν.1 29 + 2 - (k + 1) ≤ _; omega) (by omega) (by rw [e30, List.length_set]; exact h30)
      refine ⟨ν', q1, q2, fun j b30 => (q3 j b30).trans (by simp [mar, upF, b30]), by rw [l30, e30, List.length_set], fun x g0 g1 => ?_, fun x g0 g1 => ?_⟩
      · rw [o30 x g0 (by omega), e30, mat_set_ne (by omega)]
      · by_cases ex : x = k
        · subst ex; rw [o30 x h0 (by omega), e30, mat_set (by omega)]
        · rw [n30 x (by omega) g1, e20]
theorem cp_2 (fu : Nat) : ∀ (k : Int) (ν : mS), 0 ≤ k → ν.1 27 + 2 - k ≤ (fu : Int) → 1 ≤ (fu : Int) → ν.1 27 < ((ν.2 28).length : Int) → ∃ ν' : mS, c_mtakeL2 fu k ν = c_mtakeL3 123 0 ν' ∧ ν'.1 = ν.1 ∧ (∀ j, j ≠ 28 → ν'.2 j = ν.2 j) ∧ (ν'.2 28).length = (ν.2 28).length ∧ (∀ x, 0 ≤ x → x < k → mat (ν'.2 28) x = mat (ν.2 28) x) ∧ (∀ x, k ≤ x → x ≤ ν.1 27 → mat (ν'.2 28) x = mat (ν.2 18) x) := by
  induction fu with
  | zero => intro k ν _ _ h; omega
  | succ fu ih =>
    intro k ν h0 hf h1 h28
    rw [c_mtakeL2]
    by_cases c : ν.1 27 < k
    · rw [if_pos c]
      exact ⟨ν, rfl, rfl, fun j _ => rfl, rfl, fun x _ _ => rfl, fun x g0 g1 => by omega⟩
    · rw [if_neg c]
      have e28 : (mar ν 28 k (mat (ν.2 18) k)).2 28 = (ν.2 28).set k.toNat (mat (ν.2 18) k) := by simp [mar, upF]
      have e18 : (mar ν 28 k (mat (ν.2 18) k)).2 18 = ν.2 18 := by simp [mar, upF]
      obtain ⟨ν', q1, q2, q3, l28, o28, n28⟩ := ih (k + 1) (mar ν 28 k (mat (ν.2 18) k)) (by omega) (by show ν.1 27 + 2 - (k + 1) ≤ _; omega) (by omega) (by rw [e28, List.length_set]; exact h28)
      refine ⟨ν', q1, q2, fun j b28 => (q3 j b28).trans (by simp [mar, upF, b28]), by rw [l28, e28, List.length_set], fun x g0 g1 => ?_, fun x g0 g1 => ?_⟩
      · rw [o28 x g0 (by omega), e28, mat_set_ne (by omega)]
      · by_cases ex : x = k
        · subst ex; rw [o28 x h0 (by omega), e28, mat_set (by omega)]
        · rw [n28 x (by omega) g1, e18]
theorem cp_1 (fu : Nat) : ∀ (k : Int) (ν : mS), 0 ≤ k → ν.1 24 + 2 - k ≤ (fu : Int) → 1 ≤ (fu : Int) → ν.1 24 < ((ν.2 25).length : Int) → ν.1 24 < ((ν.2 26).length : Int) → ∃ ν' : mS, c_mtakeL1 fu k ν = c_mtakeL2 123 0 ν' ∧ ν'.1 = ν.1 ∧ (∀ j, j ≠ 25 → j ≠ 26 → ν'.2 j = ν.2 j) ∧ (ν'.2 25).length = (ν.2 25).length ∧ (ν'.2 26).length = (ν.2 26).length ∧ (∀ x, 0 ≤ x → x < k → mat (ν'.2 25) x = mat (ν.2 25) x) ∧ (∀ x, k ≤ x → x ≤ ν.1 24 → mat (ν'.2 25) x = mat (ν.2 15) x) ∧ (∀ x, 0 ≤ x → x < k → mat (ν'.2 26) x = mat (ν.2 26) x) ∧ (∀ x, k ≤ x → x ≤ ν.1 24 → mat (ν'.2 26) x = mat (ν.2 16) x) := by
  induction fu with
  | zero => intro k ν _ _ h; omega
  | succ fu ih =>
    intro k ν h0 hf h1 h25 h26
    rw [c_mtakeL1]
    by_cases c : ν.1 24 < k
    · rw [if_pos c]
      exact ⟨ν, rfl, rfl, fun j _ _ => rfl, rfl, rfl, fun x _ _ => rfl, fun x g0 g1 => by omega, fun x _ _ => rfl, fun x g0 g1 => by omega⟩
    · rw [if_neg c]
      have e25 : (mar (mar ν 25 k (mat (ν.2 15) k)) 26 k (mat (ν.2 16) k)).2 25 = (ν.2 25).set k.toNat (mat (ν.2 15) k) := by simp [mar, upF]
      have e26 : (mar (mar ν 25 k (mat (ν.2 15) k)) 26 k (mat (ν.2 16) k)).2 26 = (ν.2 26).set k.toNat (mat (ν.2 16) k) := by simp [mar, upF]
      have e15 : (mar (mar ν 25 k (mat (ν.2 15) k)) 26 k (mat (ν.2 16) k)).2 15 = ν.2 15 := by simp [mar, upF]
      have e16 : (mar (mar ν 25 k (mat (ν.2 15) k)) 26 k (mat (ν.2 16) k)).2 16 = ν.2 16 := by simp [mar, upF]
      obtain ⟨ν', q1, q2, q3, l25, l26, o25, n25, o26, n26⟩ := ih (k + 1) (mar (mar ν 25 k (mat (ν.2 15) k)) 26 k (mat (ν.2 16) k)) (by omega) (by show ν.1 24 + 2 - (k + 1) ≤ _; omega) (by omega) (by rw [e25, List.length_set]; exact h25) (by rw [e26, List.length_set]; exact h26)
      refine ⟨ν', q1, q2, fun j b25 b26 => (q3 j b25 b26).trans (by simp [mar, upF, b25, b26]), by rw [l25, e25, List.length_set], by rw [l26, e26, List.length_set], fun x g0 g1 => ?_, fun x g0 g1 => ?_, fun x g0 g1 => ?_, fun x g0 g1 => ?_⟩
      · rw [o25 x g0 (by omega), e25, mat_set_ne (by omega)]
      · by_cases ex : x = k
        · subst ex; rw [o25 x h0 (by omega), e25, mat_set (by omega)]
        · rw [n25 x (by omega) g1, e15]
      · rw [o26 x g0 (by omega), e26, mat_set_ne (by omega)]
      · by_cases ex : x = k
        · subst ex; rw [o26 x h0 (by omega), e26, mat_set (by omega)]
        · rw [n26 x (by omega) g1, e16]
/-- take, but for the envelopes -/
theorem take_cp {ν : mS} (hw : wfm ν) : ∃ ν' : mS, c_mtake ν = c_mtakeL5 41 1 (mfl (mfl ν' 33 0) 39 0) ∧ (∀ k, k ≠ 24 → k ≠ 27 → k ≠ 29 → ν'.1 k = ν.1 k) ∧ ν'.1 24 = ν.1 14 ∧ ν'.1 27 = ν.1 17 ∧ ν'.1 29 = ν.1 19 ∧ (∀ j, j ≠ 25 → j ≠ 26 → j ≠ 28 → j ≠ 30 → j ≠ 31 → ν'.2 j = ν.2 j) ∧
    (∀ x, 0 ≤ x → x ≤ ν.1 14 → mat (ν'.2 25) x = mat (ν.2 15) x ∧ mat (ν'.2 26) x = mat (ν.2 16) x) ∧ (∀ x, 0 ≤ x → x ≤ ν.1 17 → mat (ν'.2 28) x = mat (ν.2 18) x) ∧ (∀ x, 0 ≤ x → x ≤ ν.1 19 → mat (ν'.2 30) x = mat (ν.2 20) x) ∧ (∀ x, 0 ≤ x → x < ν.1 21 → mat (ν'.2 31) x = mat (ν.2 22) x) := by
  have f14 := hw.f14
  have f17 := hw.f17
  have f19 := hw.f19
  have f21 := hw.f21
  have l25 : (ν.2 25).length = 41 := hw.ln (k := 25) (by decide)
  have l26 : (ν.2 26).length = 42 := hw.ln (k := 26) (by decide)
  have l28 : (ν.2 28).length = 124 := hw.ln (k := 28) (by decide)
  have l30 : (ν.2 30).length = 124 := hw.ln (k := 30) (by decide)
  have l31 : (ν.2 31).length = 400 := hw.ln (k := 31) (by decide)
  obtain ⟨ν1, a1, a2, a3, a4, a5, a6, a7, a8, a9⟩ := cp_1 42 0 (mfl (mfl (mfl ν 24 (ν.1 14)) 27 (ν.1 17)) 29 (ν.1 19)) (by omega) (by show ν.1 14 + 2 - 0 ≤ _; omega) (by omega) (by show ν.1 14 < ((ν.2 25).length : Int); omega) (by show ν.1 14 < ((ν.2 26).length : Int); omega)
  have i24 : ν1.1 24 = ν.1 14 := by rw [a2]; rfl
  have i27 : ν1.1 27 = ν.1 17 := by rw [a2]; rfl
  have i29 : ν1.1 29 = ν.1 19 := by rw [a2]; rfl
  have i21 : ν1.1 21 = ν.1 21 := by rw [a2]; rfl
  have m28 : ν1.2 28 = ν.2 28 := a3 28 (by omega) (by omega)
  have m30 : ν1.2 30 = ν.2 30 := a3 30 (by omega) (by omega)
  have m31 : ν1.2 31 = ν.2 31 := a3 31 (by omega) (by omega)
  obtain ⟨ν2, b1, b2, b3, b4, b5, b6⟩ := cp_2 123 0 ν1 (by omega) (by omega) (by omega) (by rw [m28]; omega)
  obtain ⟨ν3, c1, c2, c3, c4, c5, c6⟩ := cp_3 123 0 ν2 (by omega) (by rw [b2]; omega) (by omega) (by rw [b2, b3 30 (by omega), m30]; omega)
  obtain ⟨ν4, d1, d2, d3, d4, d5, d6⟩ := cp_4 401 0 ν3 (by omega) (by rw [c2, b2]; omega) (by omega) (by rw [c2, b2, c3 31 (by omega), b3 31 (by omega), m31]; omega)
  have s18 : ν1.2 18 = ν.2 18 := a3 18 (by omega) (by omega)
  have s20 : ν2.2 20 = ν.2 20 := (b3 20 (by omega)).trans (a3 20 (by omega) (by omega))
  have s22 : ν3.2 22 = ν.2 22 := (c3 22 (by omega)).trans ((b3 22 (by omega)).trans (a3 22 (by omega) (by omega)))
  refine ⟨ν4, ?_, fun k h1 h2 h3 => ?_, ?_, ?_, ?_, fun j h1 h2 h3 h4 h5 => ?_, fun x g0 g1 => ⟨?_, ?_⟩, fun x g0 g1 => ?_, fun x g0 g1 => ?_, fun x g0 g1 => ?_⟩
  · unfold c_mtake; rw [a1, b1, c1, d1]
  · rw [d2, c2, b2, a2]; simp [mfl, upF, h1, h2, h3]
  · rw [d2, c2, b2]; exact i24
  · rw [d2, c2, b2]; exact i27
  · rw [d2, c2, b2]; exact i29
  · rw [d3 j h5, c3 j h4, b3 j h3, a3 j h1 h2]; rfl
  · rw [d3 25 (by omega), c3 25 (by omega), b3 25 (by omega), a7 x g0 g1]; rfl
  · rw [d3 26 (by omega), c3 26 (by omega), b3 26 (by omega), a9 x g0 g1]; rfl
  · rw [d3 28 (by omega), c3 28 (by omega), b6 x g0 (by omega), s18]
  · rw [d3 30 (by omega), c6 x g0 (by rw [b2]; omega), s20]
  · rw [d6 x g0 (by rw [c2, b2]; omega), s22]
