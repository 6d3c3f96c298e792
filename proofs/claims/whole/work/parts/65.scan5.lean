/-! the first line -/
theorem cb_eq {σ : cS} {ν : mS} {c : Int} (h : 32 ≤ c) : c_canBeMark σ c = c_mcanMark ν c := by
  unfold c_canBeMark c_mcanMark c_isDigit c_isCapital c_misLetter
  by_cases a1 : c ≤ 32
  · have e : c = 32 := by omega
    rw [if_neg (by omega), if_pos e, if_pos a1]
  rw [if_neg (by omega), if_neg (by omega), if_neg a1]
  by_cases a2 : c < 48
  · simp only [a2, show c < 65 by omega, show c < 97 by omega, if_true, if_false, Bool.false_eq_true]
  by_cases a3 : 57 < c
  case neg => simp only [a2, a3, show c < 65 by omega, show c < 97 by omega, show c ≤ 57 by omega, if_true, if_false, Bool.false_eq_true]
  have a4 : ¬ c ≤ 57 := by omega
  by_cases a5 : c < 65
  · simp only [a2, a3, a4, a5, show c < 97 by omega, if_true, if_false, Bool.false_eq_true]
  by_cases a6 : 90 < c
  · by_cases a7 : c < 97
    · simp only [a2, a3, a4, a5, a6, a7, if_true, if_false, Bool.false_eq_true]
    · by_cases a8 : c ≤ 122
      · simp only [a2, a3, a4, a5, a6, a7, a8, if_true, if_false, Bool.false_eq_true]
      · simp only [a2, a3, a4, a5, a6, a7, a8, if_true, if_false, Bool.false_eq_true]
  · simp only [a2, a3, a4, a5, a6, if_true, if_false, Bool.false_eq_true]
theorem cb_no {σ : cS} : c_canBeMark σ (-1) = false := by unfold c_canBeMark; rw [if_pos rfl]
theorem cm_pos {ν : mS} {c : Int} (h : c_mcanMark ν c = true) : 32 < c := by
  unfold c_mcanMark at h
  by_cases a : c ≤ 32
  · rw [if_pos a] at h; cases h
  · omega
section GD
variable {μ : mS} {c : Int}
theorem gd3 : c_mgood2 μ 3 c (c_mgood1 μ 3 c) = 0 ↔ ¬ c_mcanMark μ c = true := by
  unfold c_mgood2 c_mgood1; by_cases h : c_mcanMark μ c = true <;> simp [h]
theorem gd4 : c_mgood2 μ 4 c (c_mgood1 μ 4 c) = 0 ↔ ¬ (c_mcanMark μ c = true ∧ c ≠ mat (μ.2 2) 3) := by
  unfold c_mgood2 c_mgood1; by_cases h : c_mcanMark μ c = true <;> by_cases h2 : c = mat (μ.2 2) 3 <;> simp [h, h2]
theorem gd5 : ¬ c_mgood2 μ 5 c (c_mgood1 μ 5 c) = 0 := by
  unfold c_mgood2 c_mgood1; simp
theorem gd6 : c_mgood2 μ 6 c (c_mgood1 μ 6 c) = 0 ↔ ¬ ((c_mcanMark μ c = true ∨ c = 32) ∧ c ≠ mat (μ.2 2) 3 ∧ c ≠ mat (μ.2 2) 4) := by
  unfold c_mgood2 c_mgood1; by_cases h : c_mcanMark μ c = true <;> by_cases h2 : c = mat (μ.2 2) 3 <;> by_cases h3 : c = mat (μ.2 2) 4 <;> by_cases h4 : c = 32 <;> simp_all
theorem gd7 : c_mgood2 μ 7 c (c_mgood1 μ 7 c) = 0 ↔ ¬ c = 32 := by
  unfold c_mgood2 c_mgood1; by_cases h : c = 32 <;> simp [h]
theorem gd8 : c_mgood2 μ 8 c (c_mgood1 μ 8 c) = 0 ↔ ¬ (c_mcanMark μ c = true ∧ c ≠ mat (μ.2 2) 3 ∧ c ≠ mat (μ.2 2) 4 ∧ c ≠ mat (μ.2 2) 6) := by
  unfold c_mgood2 c_mgood1; by_cases h : c_mcanMark μ c = true <;> by_cases h2 : c = mat (μ.2 2) 3 <;> by_cases h3 : c = mat (μ.2 2) 4 <;> by_cases h4 : c = mat (μ.2 2) 6 <;> simp_all
end GD
/-- what was chosen so far -/
def CM (τ : cS) (ν : mS) (i : Int) : Prop :=
  τ.2.1 2 1 = i ∧ (4 ≤ i → τ.2.1 2 2 = mat (ν.2 2) 3 ∧ c_mcanMark ν (mat (ν.2 2) 3) = true) ∧ (5 ≤ i → τ.2.1 2 3 = mat (ν.2 2) 4 ∧ c_mcanMark ν (mat (ν.2 2) 4) = true ∧ mat (ν.2 2) 4 ≠ mat (ν.2 2) 3) ∧
  (7 ≤ i → (mat (ν.2 2) 6 = 32 ∧ τ.2.1 2 4 = 0 ∨ mat (ν.2 2) 6 ≠ 32 ∧ τ.2.1 2 4 = mat (ν.2 2) 6 ∧ c_mcanMark ν (mat (ν.2 2) 6) = true ∧ mat (ν.2 2) 6 ≠ mat (ν.2 2) 3 ∧ mat (ν.2 2) 6 ≠ mat (ν.2 2) 4)) ∧
  (9 ≤ i → τ.2.1 2 5 = mat (ν.2 2) 8 ∧ c_mcanMark ν (mat (ν.2 2) 8) = true ∧ mat (ν.2 2) 8 ≠ mat (ν.2 2) 3 ∧ mat (ν.2 2) 8 ≠ mat (ν.2 2) 4 ∧ mat (ν.2 2) 8 ≠ mat (ν.2 2) 6)
/-- one character of the first line -/
theorem choice {τ : cS} {ν : mS} {i : Int} (h : CM τ ν i) (hi : 3 ≤ i ∧ i ≤ 8) (c : Int) (hc : c = mat (ν.2 2) i) (h32 : 32 ≤ c) :
    (c_mgood2 ν i c (c_mgood1 ν i c) = 0 ∧ (c_takeChoice τ 2 c).1 = false ∧ (c_takeChoice τ 2 c).2.2.1 2 1 = i) ∨
    (¬ c_mgood2 ν i c (c_mgood1 ν i c) = 0 ∧ (c_takeChoice τ 2 c).1 = true ∧ (c_takeChoice τ 2 c).2.2.1 2 1 = i ∧ (c_takeChoice τ 2 c).2.1 = τ.1 ∧ CM (cI (c_takeChoice τ 2 c).2 2 1 (i + 1)) ν (i + 1)) := by
  obtain ⟨p1, a4, a5, a7, a9⟩ := h
  have hi2 : i = 3 ∨ i = 4 ∨ i = 5 ∨ i = 6 ∨ i = 7 ∨ i = 8 := by omega
  unfold c_takeChoice
  rcases hi2 with e | e | e | e | e | e <;> subst e <;> rw [p1]
  · -- 3
    rw [if_pos rfl]
    have eq : c_canBeMark (cI τ 2 2 c) c = c_mcanMark ν c := cb_eq h32
    by_cases q : c_mcanMark ν c = true
    · refine Or.inr ⟨fun z => (gd3.mp z) q, by rw [← q]; exact eq, by simp [cI, upI, p1], rfl, by simp [cI, upI], fun _ => ⟨by simp [cI, upI]; exact hc, by rw [← hc]; exact q⟩, fun z => by omega, fun z => by omega, fun z => by omega⟩
    · refine Or.inl ⟨gd3.mpr q, ?_, by simp [cI, upI, p1]⟩
      show c_canBeMark (cI τ 2 2 c) c = false
      rw [eq]; exact Bool.eq_false_iff.mpr q
  · -- 4
    rw [if_neg (by decide), if_pos rfl]
    have eq : c_canBeMark (cI τ 2 3 c) c = c_mcanMark ν c := cb_eq h32
    obtain ⟨b1, b2⟩ := a4 (by omega)
    rw [eq, b1]
    by_cases q : c_mcanMark ν c = true
    · rw [if_pos q]
      by_cases q2 : c = mat (ν.2 2) 3
      · rw [if_pos q2]
        exact Or.inl ⟨gd4.mpr (fun z => z.2 q2), rfl, by simp [cI, upI, p1]⟩
      · rw [if_neg q2]
        refine Or.inr ⟨fun z => (gd4.mp z) ⟨q, q2⟩, rfl, by simp [cI, upI, p1], rfl, by simp [cI, upI], fun _ => ⟨by simp [cI, upI]; exact b1, b2⟩, fun _ => ⟨by simp [cI, upI]; exact hc, by rw [← hc]; exact q, by rw [← hc]; exact q2⟩, fun z => by omega, fun z => by omega⟩
    · rw [if_neg q]
      exact Or.inl ⟨gd4.mpr (fun z => q z.1), rfl, by simp [cI, upI, p1]⟩
  · -- 5
    rw [if_neg (by decide), if_neg (by decide), if_pos rfl, if_neg (show ¬ c = -1 by omega)]
    obtain ⟨b1, b2⟩ := a4 (by omega)
    obtain ⟨d1, d2, d3⟩ := a5 (by omega)
    refine Or.inr ⟨gd5, rfl, p1, rfl, by simp [cI, upI], fun _ => ⟨by simp [cI, upI]; exact b1, b2⟩, fun _ => ⟨by simp [cI, upI]; exact d1, d2, d3⟩, fun z => by omega, fun z => by omega⟩
  · -- 6
    rw [if_neg (by decide), if_neg (by decide), if_neg (by decide), if_pos rfl]
    have eq : c_canBeMark (cI τ 2 4 c) c = c_mcanMark ν c := cb_eq h32
    obtain ⟨b1, b2⟩ := a4 (by omega)
    obtain ⟨d1, d2, d3⟩ := a5 (by omega)
    have p3 := cm_pos b2
    have p4 := cm_pos d2
    by_cases q0 : c = 32
    · rw [if_pos q0]
      refine Or.inr ⟨fun z => (gd6.mp z) ⟨Or.inr q0, by omega, by omega⟩, rfl, by simp [cI, upI, p1], rfl, by simp [cI, upI], fun _ => ⟨by simp [cI, upI]; exact b1, b2⟩, fun _ => ⟨by simp [cI, upI]; exact d1, d2, d3⟩, fun _ => Or.inl ⟨by rw [← hc]; exact q0, by simp [cI, upI]⟩, fun z => by omega⟩
    rw [if_neg q0, eq, b1, d1]
    by_cases q : c_mcanMark ν c = true
    · rw [if_pos q]
      by_cases q2 : c = mat (ν.2 2) 3
      · rw [if_pos q2]
        exact Or.inl ⟨gd6.mpr (fun z => z.2.1 q2), rfl, by simp [cI, upI, p1]⟩
      · rw [if_neg q2]
        by_cases q3 : c = mat (ν.2 2) 4
        · rw [if_pos q3]
          exact Or.inl ⟨gd6.mpr (fun z => z.2.2 q3), rfl, by simp [cI, upI, p1]⟩
        · rw [if_neg q3]
          refine Or.inr ⟨fun z => (gd6.mp z) ⟨Or.inl q, q2, q3⟩, rfl, by simp [cI, upI, p1], rfl, by simp [cI, upI], fun _ => ⟨by simp [cI, upI]; exact b1, b2⟩, fun _ => ⟨by simp [cI, upI]; exact d1, d2, d3⟩, fun _ => Or.inr ⟨by rw [← hc]; exact q0, by simp [cI, upI]; exact hc, by rw [← hc]; exact q, by rw [← hc]; exact q2, by rw [← hc]; exact q3⟩, fun z => by omega⟩
    · rw [if_neg q]
      exact Or.inl ⟨gd6.mpr (fun z => z.1.elim q q0), rfl, by simp [cI, upI, p1]⟩
  · -- 7
    rw [if_neg (by decide), if_neg (by decide), if_neg (by decide), if_neg (by decide), if_pos rfl]
    obtain ⟨b1, b2⟩ := a4 (by omega)
    obtain ⟨d1, d2, d3⟩ := a5 (by omega)
    have f := a7 (by omega)
    by_cases q0 : c = 32
    · rw [if_pos q0]
      refine Or.inr ⟨fun z => (gd7.mp z) q0, rfl, p1, rfl, by simp [cI, upI], fun _ => ⟨by simp [cI, upI]; exact b1, b2⟩, fun _ => ⟨by simp [cI, upI]; exact d1, d2, d3⟩, fun _ => ?_, fun z => by omega⟩
      have e4 : (cI τ 2 1 (7 + 1)).2.1 2 4 = τ.2.1 2 4 := by simp [cI, upI]
      show (mat (ν.2 2) 6 = 32 ∧ (cI τ 2 1 (7 + 1)).2.1 2 4 = 0 ∨ mat (ν.2 2) 6 ≠ 32 ∧ (cI τ 2 1 (7 + 1)).2.1 2 4 = mat (ν.2 2) 6 ∧ _)
      rw [e4]; exact f
    · rw [if_neg q0]
      exact Or.inl ⟨gd7.mpr q0, rfl, p1⟩
  · -- 8
    rw [if_neg (by decide), if_neg (by decide), if_neg (by decide), if_neg (by decide), if_neg (by decide)]
    have eq : c_canBeMark (cI τ 2 5 c) c = c_mcanMark ν c := cb_eq h32
    obtain ⟨b1, b2⟩ := a4 (by omega)
    obtain ⟨d1, d2, d3⟩ := a5 (by omega)
    have f := a7 (by omega)
    rw [eq, b1, d1]
    by_cases q : c_mcanMark ν c = true
    · have cp := cm_pos q
      rw [if_pos q]
      by_cases q2 : c = mat (ν.2 2) 3
      · rw [if_pos q2]
        exact Or.inl ⟨gd8.mpr (fun z => z.2.1 q2), rfl, by simp [cI, upI, p1]⟩
      rw [if_neg q2]
      by_cases q3 : c = mat (ν.2 2) 4
      · rw [if_pos q3]
        exact Or.inl ⟨gd8.mpr (fun z => z.2.2.1 q3), rfl, by simp [cI, upI, p1]⟩
      rw [if_neg q3]
      by_cases q4 : c = mat (ν.2 2) 6
      · have g : c = τ.2.1 2 4 := by
          rcases f with z | z
          · omega
          · omega
        rw [if_pos g]
        exact Or.inl ⟨gd8.mpr (fun z => z.2.2.2 q4), rfl, by simp [cI, upI, p1]⟩
      · have g : ¬ c = τ.2.1 2 4 := by
          rcases f with z | z
          · omega
          · omega
        rw [if_neg g]
        refine Or.inr ⟨fun z => (gd8.mp z) ⟨q, q2, q3, q4⟩, rfl, by simp [cI, upI, p1], rfl, by simp [cI, upI], fun _ => ⟨by simp [cI, upI]; exact b1, b2⟩, fun _ => ⟨by simp [cI, upI]; exact d1, d2, d3⟩, fun _ => ?_, fun _ => ⟨by simp [cI, upI]; exact hc, by rw [← hc]; exact q, by rw [← hc]; exact q2, by rw [← hc]; exact q3, by rw [← hc]; exact q4⟩⟩
        have e4 : (cI (cI τ 2 5 c) 2 1 (8 + 1)).2.1 2 4 = τ.2.1 2 4 := by simp [cI, upI]
        show (mat (ν.2 2) 6 = 32 ∧ (cI (cI τ 2 5 c) 2 1 (8 + 1)).2.1 2 4 = 0 ∨ mat (ν.2 2) 6 ≠ 32 ∧ (cI (cI τ 2 5 c) 2 1 (8 + 1)).2.1 2 4 = mat (ν.2 2) 6 ∧ _)
        rw [e4]; exact f
    · rw [if_neg q]
      exact Or.inl ⟨gd8.mpr (fun z => q z.1), rfl, by simp [cI, upI, p1]⟩
/-- the text ends in the first line -/
theorem choice_no {τ : cS} {i : Int} (p1 : τ.2.1 2 1 = i) (hi : 3 ≤ i ∧ i ≤ 8) : (c_takeChoice τ 2 (-1)).1 = false ∧ (c_takeChoice τ 2 (-1)).2.2.1 2 1 = i := by
  have hi2 : i = 3 ∨ i = 4 ∨ i = 5 ∨ i = 6 ∨ i = 7 ∨ i = 8 := by omega
  unfold c_takeChoice
  rcases hi2 with e | e | e | e | e | e <;> subst e <;> rw [p1] <;> simp [cb_no, cI, upI, p1]
