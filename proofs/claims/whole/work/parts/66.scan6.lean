/-! the scan as a whole -/
theorem marks_run (fu : Nat) : ∀ (i : Int) (τ : cS) (ν : mS), CM τ ν i → rowIs (τ.1 3) (ν.2 2) 0 (ν.1 1) → (∀ j, 0 ≤ j → j < ν.1 1 → 32 ≤ mat (ν.2 2) j) → 3 ≤ i → i ≤ 9 → i ≤ ν.1 1 → 9 - i < (fu : Int) →
    ((c_takeMarksL 2 fu τ).1 = true ∧ (c_mmarksL fu i ν).1 = 9 ∧ MK (c_takeMarksL 2 fu τ).2 (c_mmarksL fu i ν).2 ∧ (c_takeMarksL 2 fu τ).2.1 = τ.1 ∧ (c_takeMarksL 2 fu τ).2.2.1 2 1 = 9 ∧ (c_mmarksL fu i ν).2.2 = ν.2 ∧ (c_mmarksL fu i ν).2.1 1 = ν.1 1 ∧ 9 ≤ ν.1 1) ∨
    ((c_takeMarksL 2 fu τ).1 = false ∧ (c_mmarksL fu i ν).1 = -1 ∧ (c_mmarksL fu i ν).2.1 13 = (c_takeMarksL 2 fu τ).2.2.1 2 1 ∧ 0 ≤ (c_takeMarksL 2 fu τ).2.2.1 2 1) := by
  induction fu with
  | zero => intro i τ ν _ _ _ _ _ _ hf; omega
  | succ fu ih =>
    intro i τ ν h hr hx h3 h9 hl hf
    have p1 := h.1
    unfold c_takeMarksL c_mmarksL
    rw [p1]
    by_cases c9 : 9 ≤ i
    · have e : i = 9 := by omega
      subst e
      obtain ⟨-, a4, a5, a7, a9⟩ := h
      obtain ⟨b1, b2⟩ := a4 (by omega)
      obtain ⟨d1, d2, d3⟩ := a5 (by omega)
      have f := a7 (by omega)
      obtain ⟨g1, g2, g3, g4, g5⟩ := a9 (by omega)
      have q3 := cm_pos b2
      have q4 := cm_pos d2
      have q8 := cm_pos g2
      rw [if_pos (by decide), if_pos (by decide)]
      by_cases c6 : mat (ν.2 2) 6 = 32
      · rw [if_pos c6]
        have f4 : τ.2.1 2 4 = 0 := by rcases f with z | z; exact z.2; exact absurd c6 z.1
        refine Or.inl ⟨rfl, rfl, ⟨b1, d1, f4, g1, ⟨?_, ?_, ?_, ?_⟩, ?_, ?_, ?_, ?_, ?_, ?_⟩, rfl, p1, rfl, rfl, hl⟩
        · show 0 < mat (ν.2 2) 3; omega
        · show 0 < mat (ν.2 2) 4; omega
        · show (0 : Int) ≤ 0; omega
        · show 0 < mat (ν.2 2) 8; omega
        · show mat (ν.2 2) 3 ≠ mat (ν.2 2) 4; omega
        · show mat (ν.2 2) 3 ≠ mat (ν.2 2) 8; omega
        · show mat (ν.2 2) 4 ≠ mat (ν.2 2) 8; omega
        · show (0 : Int) ≠ mat (ν.2 2) 3; omega
        · show (0 : Int) ≠ mat (ν.2 2) 4; omega
        · show (0 : Int) ≠ mat (ν.2 2) 8; omega
      · rw [if_neg c6]
        have f4 : τ.2.1 2 4 = mat (ν.2 2) 6 ∧ c_mcanMark ν (mat (ν.2 2) 6) = true ∧ mat (ν.2 2) 6 ≠ mat (ν.2 2) 3 ∧ mat (ν.2 2) 6 ≠ mat (ν.2 2) 4 := by rcases f with z | z; exact absurd z.1 c6; exact z.2
        have q6 := cm_pos f4.2.1
        refine Or.inl ⟨rfl, rfl, ⟨b1, d1, f4.1, g1, ⟨?_, ?_, ?_, ?_⟩, ?_, ?_, ?_, ?_, ?_, ?_⟩, rfl, p1, rfl, rfl, hl⟩
        · show 0 < mat (ν.2 2) 3; omega
        · show 0 < mat (ν.2 2) 4; omega
        · show 0 ≤ mat (ν.2 2) 6; omega
        · show 0 < mat (ν.2 2) 8; omega
        · show mat (ν.2 2) 3 ≠ mat (ν.2 2) 4; omega
        · show mat (ν.2 2) 3 ≠ mat (ν.2 2) 8; omega
        · show mat (ν.2 2) 4 ≠ mat (ν.2 2) 8; omega
        · show mat (ν.2 2) 6 ≠ mat (ν.2 2) 3; omega
        · show mat (ν.2 2) 6 ≠ mat (ν.2 2) 4; omega
        · show mat (ν.2 2) 6 ≠ mat (ν.2 2) 8; omega
    rw [if_neg c9, if_neg c9]
    by_cases ce : i = ν.1 1
    · have ci : rat (τ.1 (2 + 1)) i = -1 := (rat_get hr).trans (if_neg (by omega))
      rw [ci, if_pos ce]
      have q := choice_no p1 (show 3 ≤ i ∧ i ≤ 8 by omega)
      rw [if_neg (by rw [q.1]; decide)]
      exact Or.inr ⟨rfl, rfl, q.2.symm, by show 0 ≤ (c_takeChoice τ 2 (-1)).2.2.1 2 1; rw [q.2]; omega⟩
    · have ci : rat (τ.1 (2 + 1)) i = mat (ν.2 2) i := (rat_get hr).trans (if_pos ⟨by omega, by omega⟩)
      rw [ci, if_neg ce]
      rcases choice (ν := mfl ν 13 i) h (show 3 ≤ i ∧ i ≤ 8 by omega) (mat (ν.2 2) i) rfl (hx i (by omega) (by omega)) with ⟨q1, q2, q3⟩ | ⟨q1, q2, q3, q4, q5⟩
      · rw [if_pos q1, if_neg (by rw [q2]; decide)]
        exact Or.inr ⟨rfl, rfl, q3.symm, by show 0 ≤ (c_takeChoice τ 2 (mat (ν.2 2) i)).2.2.1 2 1; rw [q3]; omega⟩
      · rw [if_neg q1, if_pos q2, q3]
        have hr2 : rowIs ((cI (c_takeChoice τ 2 (mat (ν.2 2) i)).2 2 1 (i + 1)).1 3) (ν.2 2) 0 (ν.1 1) := by
          show rowIs ((c_takeChoice τ 2 (mat (ν.2 2) i)).2.1 3) (ν.2 2) 0 (ν.1 1)
          rw [q4]; exact hr
        have res := ih (i + 1) (cI (c_takeChoice τ 2 (mat (ν.2 2) i)).2 2 1 (i + 1)) (mfl ν 13 i) q5 hr2 hx (by omega) (by omega) (show i + 1 ≤ ν.1 1 by omega) (by omega)
        rcases res with ⟨r1, r2, r3, r4, r5, r6, r7, r8⟩ | r
        · refine Or.inl ⟨r1, r2, r3, r4.trans ?_, r5, r6, r7, r8⟩
          show (c_takeChoice τ 2 (mat (ν.2 2) i)).2.1 = τ.1
          exact q4
        · exact Or.inr r
theorem fuel_eq (fu : Nat) : ∀ (i a : Int) (ν : mS), ν.1 1 ≤ 400 → 0 ≤ i → i ≤ 401 → 402 - i ≤ (fu : Int) → c_mscansL fu i a ν = mrun i a ν := by
  induction fu with
  | zero => intro i a ν _ _ _ hf; omega
  | succ fu ih =>
    intro i a ν h1 h2 h3 hf
    by_cases ha : a < 0
    · rw [mrun_bad h2 h3 ha, c_mscansL]
      by_cases c : ν.1 1 ≤ i
      · rw [if_pos c, if_neg (by omega)]
      · rw [if_neg c, if_pos ha, if_neg (by omega)]
    by_cases c : ν.1 1 ≤ i
    · rw [mrun_end h2 h3 c (by omega), c_mscansL, if_pos c, if_pos (by omega)]
      by_cases c0 : a = 0
      · rw [if_pos c0]
        by_cases c2 : ν.1 14 ≤ 0
        · rw [if_pos c2, decide_eq_false (by omega)]
        · rw [if_neg c2, decide_eq_true (by omega)]
      · rw [if_neg c0, decide_eq_false (by omega)]
    · rw [mrun_step h2 (by omega) h1 (by omega), c_mscansL, if_neg c, if_neg ha]
      refine ih (i + 1) _ _ ?_ (by omega) (by omega) (by omega)
      rw [g1_mnext (by decide)]; exact h1
theorem kd2_p {p : Nat} (h : kd p = 2) : p = 13 ∨ p = 43 := kd_all (c := 2) (Q := fun p => p = 13 ∨ p = 43) (by decide) (by decide) h
/-- the parts before anything was taken -/
theorem SR_0 {τ : cS} {ν : mS} {p : Nat} {i : Int} (hw : LN ν) (hx : rowIs (τ.1 3) (ν.2 2) 0 (ν.1 1)) (h32 : ∀ j, 0 ≤ j → j < ν.1 1 → 32 ≤ mat (ν.2 2) j) (h400 : ν.1 1 ≤ 400) (hm : MK τ ν) (hi : τ.2.1 2 1 = i) (h0 : 0 ≤ i) (h1 : i ≤ ν.1 1) (e1 : τ.1 (p + 1) = []) (e3 : τ.1 (p + 3) = []) (e5 : τ.1 (p + 5) = []) (e7 : τ.1 (p + 7) = []) (e9 : τ.1 (p + 9) = []) :
    SR τ (mar (mar (mar (mfl (mfl (mfl (mfl ν 14 0) 17 0) 19 0) 21 0) 16 0 0) 18 0 0) 20 0 0) p i ((mar (mar (mar (mfl (mfl (mfl (mfl ν 14 0) 17 0) 19 0) 21 0) 16 0 0) 18 0 0) 20 0 0).1 14) := by
  obtain ⟨l1, l2, l3, l4, l5⟩ := hw
  have z16 : mat ((ν.2 16).set (0 : Int).toNat 0) 0 = 0 := mat_set (by omega)
  have z18 : mat ((ν.2 18).set (0 : Int).toNat 0) 0 = 0 := mat_set (by omega)
  have z20 : mat ((ν.2 20).set (0 : Int).toNat 0) 0 = 0 := mat_set (by omega)
  refine ⟨⟨hx, h32, h400, hm⟩, ⟨hi, h0, h1⟩, ⟨?_, ?_, ?_, ?_, ?_⟩, ⟨l1, ?_, ?_, ?_, l5⟩, ?_⟩
  · rw [e1]; exact rowIs_nil
  · rw [e3]; exact rowIs_nil
  · rw [e5]; exact rowIs_nil
  · rw [e7]; exact rowIs_nil
  · rw [e9]; exact rowIs_nil
  · show ((ν.2 16).set _ 0).length = 42; rw [List.length_set]; exact l2
  · show ((ν.2 18).set _ 0).length = 124; rw [List.length_set]; exact l3
  · show ((ν.2 20).set _ 0).length = 124; rw [List.length_set]; exact l4
  · refine ⟨⟨Int.le_refl 0, ?_, Int.le_refl 0, Int.le_refl 0, ?_, Int.le_refl 0⟩, Or.inl ⟨rfl, ?_, z16⟩, fun s g0 g1 => absurd (show s < 0 from g1) (by omega), ⟨z16, fun s g0 g1 => absurd (show s < 0 from g1) (by omega)⟩, ⟨z18, z18, fun s g0 g1 => absurd (show s < 0 from g1) (by omega)⟩, ⟨z20, z20, fun s g0 g1 => absurd (show s < 0 from g1) (by omega)⟩⟩
    · show (0 : Int) ≤ 40; omega
    · show (0 : Int) ≤ 120; omega
    · show 4 * (0 : Int) + 0 + 0 ≤ i; omega
theorem scan_eq {σ : cS} {μ : mS} {p : Nat} (h : R σ μ) (hp : kd p = 2) : APT p (c_takeApart σ 2 p) (c_mscans (mfl μ 13 (-1))) := by
  obtain ⟨w1, w2, hrow, htx, a3, a4, a5, a6⟩ := h
  have f1 := w2.f1
  have hp2 : 13 ≤ p := by have := kd2_p hp; omega
  have ln : LN (mfl μ 13 (-1)) := ⟨w2.ln (k := 15) (by decide), w2.ln (k := 16) (by decide), w2.ln (k := 18) (by decide), w2.ln (k := 20) (by decide), w2.ln (k := 22) (by decide)⟩
  have e0 : ∀ r, r ≠ p + 1 → r ≠ p + 3 → r ≠ p + 5 → r ≠ p + 7 → r ≠ p + 9 → (cI (c_pempty σ p) 2 1 0).1 r = σ.1 r := fun r b1 b2 b3 b4 b5 => by simp [cI, c_pempty, cemp, upR, b1, b2, b3, b4, b5]
  have z1 : (cI (c_pempty σ p) 2 1 0).1 (p + 1) = [] := by simp [cI, c_pempty, cemp, upR]
  have z3 : (cI (c_pempty σ p) 2 1 0).1 (p + 3) = [] := by simp [cI, c_pempty, cemp, upR]
  have z5 : (cI (c_pempty σ p) 2 1 0).1 (p + 5) = [] := by simp [cI, c_pempty, cemp, upR]
  have z7 : (cI (c_pempty σ p) 2 1 0).1 (p + 7) = [] := by simp [cI, c_pempty, cemp, upR]
  have z9 : (cI (c_pempty σ p) 2 1 0).1 (p + 9) = [] := by simp [cI, c_pempty, cemp, upR]
  have r3 : rowIs ((cI (c_pempty σ p) 2 1 0).1 3) (μ.2 2) 0 (μ.1 1) := by rw [e0 3 (by omega) (by omega) (by omega) (by omega) (by omega)]; exact hrow
  have pl : (cI (c_pempty σ p) 2 1 0).2.1 2 1 = 0 := by simp [cI, upI]
  unfold c_takeApart c_mscans
  generalize hτ : cI (c_pempty σ p) 2 1 0 = τ at *
  have go : ∀ (τ' : cS) (ν : mS) (i : Int), τ'.1 = τ.1 → MK τ' ν → ν.2 = μ.2 → ν.1 1 = μ.1 1 → τ'.2.1 2 1 = i → 0 ≤ i → i ≤ μ.1 1 → APT p (c_takeApartL 2 p 41 0 τ') (c_mscansL 402 i 0 (mar (mar (mar (mfl (mfl (mfl (mfl ν 14 0) 17 0) 19 0) 21 0) 16 0 0) 18 0 0) 20 0 0)) := fun τ' ν i b1 b2 b3 b4 b5 b6 b7 => by
    have ln2 : LN ν := by unfold LN; rw [b3]; exact ln
    have sr := SR_0 (τ := τ') (ν := ν) (p := p) (i := i) ln2 (by rw [b1, b3, b4]; exact r3) (by rw [b3, b4]; exact htx) (by omega) b2 b5 b6 (by omega) (by rw [b1]; exact z1) (by rw [b1]; exact z3) (by rw [b1]; exact z5) (by rw [b1]; exact z7) (by rw [b1]; exact z9)
    have fe := fuel_eq 402 i 0 (mar (mar (mar (mfl (mfl (mfl (mfl ν 14 0) 17 0) 19 0) 21 0) 16 0 0) 18 0 0) 20 0 0) (show ν.1 1 ≤ 400 by omega) b6 (by omega) (by omega)
    rw [fe]
    exact apart_run hp hp2 41 0 i τ' _ sr rfl (by omega)
  have dflt : APT p (if ((true, (cI (cI (cI (cI τ 2 2 58) 2 3 43) 2 4 63) 2 5 39)) : Bool × cS).1 = true then (c_takeApartL 2 p (41) 0 ((true, (cI (cI (cI (cI τ 2 2 58) 2 3 43) 2 4 63) 2 5 39)) : Bool × cS).2) else ((((true, (cI (cI (cI (cI τ 2 2 58) 2 3 43) 2 4 63) 2 5 39)) : Bool × cS).2.2.1 2 1), ((true, (cI (cI (cI (cI τ 2 2 58) 2 3 43) 2 4 63) 2 5 39)) : Bool × cS).2)) (if 0 ≤ (((0 : Int), (mfl (mfl (mfl (mfl (mfl μ 13 (-1)) 9 58) 10 43) 11 63) 12 39)) : Int × mS).1 then (c_mscansL (402) ((((0 : Int), (mfl (mfl (mfl (mfl (mfl μ 13 (-1)) 9 58) 10 43) 11 63) 12 39)) : Int × mS).1) 0 (mar (mar (mar (mfl (mfl (mfl (mfl (((0 : Int), (mfl (mfl (mfl (mfl (mfl μ 13 (-1)) 9 58) 10 43) 11 63) 12 39)) : Int × mS).2 14 0) 17 0) 19 0) 21 0) 16 0 0) 18 0 0) 20 0 0)) else (false, (((0 : Int), (mfl (mfl (mfl (mfl (mfl μ 13 (-1)) 9 58) 10 43) 11 63) 12 39)) : Int × mS).2)) := by
    rw [if_pos rfl, if_pos (Int.le_refl 0)]
    refine go _ _ 0 rfl ⟨?_, ?_, ?_, ?_, ?_⟩ rfl rfl ?_ (by omega) (by omega)
    · simp [cI, upI, mfl, upF]
    · simp [cI, upI, mfl, upF]
    · simp [cI, upI, mfl, upF]
    · simp [cI, upI, mfl, upF]
    · simp [mfl, upF]
    · simp [cI, upI, pl]
  unfold c_takeMarks c_mmarks
  have g : ∀ j : Int, rat (τ.1 (2 + 1)) j = if 0 ≤ j ∧ j < μ.1 1 then mat (μ.2 2) j else -1 := fun j => rat_get r3
  by_cases u0 : rat (τ.1 (2 + 1)) 0 = 85
  case neg =>
    rw [if_neg u0]
    by_cases l3 : μ.1 1 < 3
    · rw [if_pos (show (mfl μ 13 (-1)).1 1 < 3 from l3)]; exact dflt
    · rw [g, if_pos ⟨by omega, by omega⟩] at u0
      rw [if_neg (show ¬ (mfl μ 13 (-1)).1 1 < 3 from l3), if_neg (show ¬ mat ((mfl μ 13 (-1)).2 2) 0 = 85 from u0)]; exact dflt
  rw [if_pos u0]
  by_cases u1 : rat (τ.1 (2 + 1)) 1 = 78
  case neg =>
    rw [if_neg u1]
    by_cases l3 : μ.1 1 < 3
    · rw [if_pos (show (mfl μ 13 (-1)).1 1 < 3 from l3)]; exact dflt
    · rw [g, if_pos ⟨by omega, by omega⟩] at u0 u1
      rw [if_neg (show ¬ (mfl μ 13 (-1)).1 1 < 3 from l3), if_pos (show mat ((mfl μ 13 (-1)).2 2) 0 = 85 from u0), if_neg (show ¬ mat ((mfl μ 13 (-1)).2 2) 1 = 78 from u1)]; exact dflt
  rw [if_pos u1]
  by_cases u2 : rat (τ.1 (2 + 1)) 2 = 65
  case neg =>
    rw [if_neg u2]
    by_cases l3 : μ.1 1 < 3
    · rw [if_pos (show (mfl μ 13 (-1)).1 1 < 3 from l3)]; exact dflt
    · rw [g, if_pos ⟨by omega, by omega⟩] at u0 u1 u2
      rw [if_neg (show ¬ (mfl μ 13 (-1)).1 1 < 3 from l3), if_pos (show mat ((mfl μ 13 (-1)).2 2) 0 = 85 from u0), if_pos (show mat ((mfl μ 13 (-1)).2 2) 1 = 78 from u1), if_neg (show ¬ mat ((mfl μ 13 (-1)).2 2) 2 = 65 from u2)]; exact dflt
  rw [if_pos u2]
  have l3 : ¬ μ.1 1 < 3 := fun q => by rw [g, if_neg (by omega)] at u2; omega
  rw [g, if_pos ⟨by omega, by omega⟩] at u0 u1 u2
  rw [if_neg (show ¬ (mfl μ 13 (-1)).1 1 < 3 from l3), if_pos (show mat ((mfl μ 13 (-1)).2 2) 0 = 85 from u0), if_pos (show mat ((mfl μ 13 (-1)).2 2) 1 = 78 from u1), if_pos (show mat ((mfl μ 13 (-1)).2 2) 2 = 65 from u2)]
  have res := marks_run 7 3 (cI τ 2 1 3) (mfl (mfl (mfl (mfl (mfl μ 13 (-1)) 9 58) 10 43) 11 63) 12 39) ⟨by simp [cI, upI], fun q => by omega, fun q => by omega, fun q => by omega, fun q => by omega⟩ r3 htx (by omega) (by omega) (show 3 ≤ μ.1 1 by omega) (by omega)
  rcases res with ⟨q1, q2, q3, q4, q5, q6, q7, q8⟩ | ⟨q1, q2, q3, q4⟩
  · rw [if_pos q1, if_pos (by rw [q2]; decide), q2]
    exact go _ _ 9 q4 q3 q6 q7 q5 (by omega) q8
  · rw [if_neg (by rw [q1]; decide), if_neg (by rw [q2]; decide)]
    exact Or.inr ⟨q4, rfl, q3⟩
