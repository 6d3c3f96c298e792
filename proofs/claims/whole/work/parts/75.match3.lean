/-! matching: one segment, the end -/
theorem first_eq {σ : cS} {μ : mS} {t v : Int} (h : MR σ μ t) (h0 : 0 ≤ μ.1 43) (hv : 0 < v) : (c_firstTag σ (tb t) = v) ↔ (c_mbegins μ t (μ.1 43) = v) := by
  obtain ⟨tr, hw, q, hl, hi, hg, h1, h2⟩ := h
  have ok := tr.2.2.2.2.2.2
  have qs := q.2.2.1 h0
  have t0 : rat (σ.1 (tb t + 1)) (μ.1 43) = mat (μ.2 4) (24 * t + μ.1 43) := tr.1.2 _ h0 qs.1
  have p0 := (hw.a4 (24 * t + μ.1 43)).1
  unfold c_firstTag c_mbegins
  rw [hi, t0]
  by_cases c : mat (μ.2 4) (24 * t + μ.1 43) = 0
  · rw [if_pos c, if_pos (show mat (μ.2 4) (24 * t + μ.1 43) ≤ 0 by omega), tab_first hw ok h0 qs.1 c]
    by_cases d : μ.1 43 + 1 < mat (μ.2 3) t
    · have o1 : rat (σ.1 (tb t + 7)) (μ.1 43 + 1) = mi μ t (μ.1 43 + 1) := tr.2.2.2.1.2 _ (by omega) d
      have g1 : rat (σ.1 (tb t + 1)) (μ.1 43 + 1) = mat (μ.2 4) (24 * t + (μ.1 43 + 1)) := tr.1.2 _ (by omega) d
      rw [if_pos d, o1, ok.2.2.1 _ h0 d c, if_pos rfl, g1, if_pos (show 0 ≤ μ.1 43 + 1 by omega)]
    · have o1 : rat (σ.1 (tb t + 7)) (μ.1 43 + 1) = -1 := rat_out (Or.inr (by have := tr.2.2.2.1.1; omega))
      rw [if_neg d, o1, if_neg (show ¬ (-1 : Int) = μ.1 43 by omega), if_neg (show ¬ (0 : Int) ≤ -1 by omega)]
      constructor <;> intro z <;> omega
  · rw [if_neg c, if_neg (show ¬ mat (μ.2 4) (24 * t + μ.1 43) ≤ 0 by omega)]
theorem miss_eq {σ : cS} {μ : mS} {t : Int} (h : MR σ μ t) (h0 : 0 ≤ μ.1 43) : (c_isMissing σ (tb t) = true) ↔ (¬ mat (μ.2 5) (24 * t + μ.1 43) = 0 ∧ μ.1 44 = 0) := by
  obtain ⟨tr, hw, q, hl, hi, hg, h1, h2⟩ := h
  have qs := q.2.2.1 h0
  have t0 : rat (σ.1 (tb t + 3)) (μ.1 43) = mat (μ.2 5) (24 * t + μ.1 43) := tr.2.1.2 _ h0 qs.1
  have p0 := hw.a5 (24 * t + μ.1 43)
  unfold c_isMissing
  rw [hi, t0, h1 h0]
  by_cases c : mat (μ.2 5) (24 * t + μ.1 43) = 1
  · rw [if_pos c]
    by_cases d : μ.1 44 = 0
    · rw [if_pos d]; exact ⟨fun _ => ⟨by omega, d⟩, fun _ => rfl⟩
    · rw [if_neg d]; exact ⟨fun z => (by cases z), fun z => absurd z.2 d⟩
  · rw [if_neg c]; exact ⟨fun z => (by cases z), fun z => by omega⟩
/-- the model's item is taken -/
def tkI (μ : mS) (t : Int) : Int × mS := (if (μ.1 44) = (mat (μ.2 6) ((24 * t) + (μ.1 43))) then (6, μ) else (if (mat (μ.2 4) ((24 * t) + (μ.1 43))) = 0 then (0, (mfl (mfl (mfl (mar (mar (mfl μ 44 ((μ.1 44) + 1)) 46 (μ.1 45) (μ.1 43)) 47 (μ.1 45) ((μ.1 44) + 1)) 45 ((μ.1 45) + 1)) 43 (c_mfollowing (mfl (mar (mar (mfl μ 44 ((μ.1 44) + 1)) 46 (μ.1 45) (μ.1 43)) 47 (μ.1 45) ((μ.1 44) + 1)) 45 ((μ.1 45) + 1)) t (c_mfollowing (mfl (mar (mar (mfl μ 44 ((μ.1 44) + 1)) 46 (μ.1 45) (μ.1 43)) 47 (μ.1 45) ((μ.1 44) + 1)) 45 ((μ.1 45) + 1)) t (-1) (μ.1 43)) (μ.1 43))) 44 0)) else (0, (mfl μ 44 ((μ.1 44) + 1)))))
theorem take_eq {σ : cS} {μ : mS} {t v : Int} (ht : 0 ≤ t ∧ t ≤ 3) (h : MR σ μ t) (h0 : 0 ≤ μ.1 43) (hv : 0 < v) (hb : c_mbegins μ t (μ.1 43) = v) : (c_takeItem σ (tb t)).1 = (tkI μ t).1 ∧ ((tkI μ t).1 = 0 → MR (c_takeItem σ (tb t)).2 (tkI μ t).2 t) := by
  obtain ⟨tr, hw, q, hl, hi, hg, h1, h2⟩ := id h
  have ok := tr.2.2.2.2.2.2
  have qs := q.2.2.1 h0
  have hh := q.1.2.1 h0
  have m3 := q.1.1
  have f44 := hw.f44
  have f45 := hw.f45
  have f43 := hw.f43
  have a6 := hw.a6 (24 * t + μ.1 43)
  have l46 : (μ.2 46).length = 4 := hw.l46
  have l47 : (μ.2 47).length = 4 := hw.l47
  have t6 : rat (σ.1 (tb t + 5)) (μ.1 43) = mat (μ.2 6) (24 * t + μ.1 43) := tr.2.2.1.2 _ h0 qs.1
  have t4 : rat (σ.1 (tb t + 1)) (μ.1 43) = mat (μ.2 4) (24 * t + μ.1 43) := tr.1.2 _ h0 qs.1
  unfold c_takeItem tkI
  rw [hi, h1 h0, t6]
  by_cases c : μ.1 44 = mat (μ.2 6) (24 * t + μ.1 43)
  · rw [if_neg (by omega), if_pos c]; exact ⟨rfl, fun z => by cases z⟩
  rw [if_pos (show μ.1 44 < mat (μ.2 6) (24 * t + μ.1 43) by omega), if_neg c]
  have p1 : ∀ r, r ≠ tb t + 9 → (cput σ (tb t + 9) (μ.1 43) (μ.1 44 + 1)).1 r = σ.1 r := fun r hr => by simp [cput, upR, hr]
  have p9 : (cput σ (tb t + 9) (μ.1 43) (μ.1 44 + 1)).1 (tb t + 9) = (σ.1 (tb t + 9)).set (μ.1 43).toNat (μ.1 44 + 1) := by simp [cput, upR, h0]
  have pi : (cput σ (tb t + 9) (μ.1 43) (μ.1 44 + 1)).2 = σ.2 := rfl
  rw [p1 (tb t + 1) (by omega), t4]
  by_cases d : mat (μ.2 4) (24 * t + μ.1 43) = 0
  · rw [if_pos d, if_pos d]
    refine ⟨rfl, fun _ => ?_⟩
    -- the trigger stands behind the group
    have nx : μ.1 43 + 1 < mat (μ.2 3) t := by
      rcases Int.lt_or_le (μ.1 43 + 1) (mat (μ.2 3) t) with z | z
      · exact z
      · unfold c_mbegins at hb
        rw [if_pos (show mat (μ.2 4) (24 * t + μ.1 43) ≤ 0 by omega), tab_first hw ok h0 qs.1 d, if_neg (by omega)] at hb
        omega
    have tf := tab_first hw ok h0 qs.1 d
    rw [if_pos nx] at tf
    have fc : ∀ k g, c_mfollowing (mfl (mar (mar (mfl μ 44 (μ.1 44 + 1)) 46 (μ.1 45) (μ.1 43)) 47 (μ.1 45) (μ.1 44 + 1)) 45 (μ.1 45 + 1)) t k g = c_mfollowing μ t k g := fun k g => fo_congr rfl rfl
    rw [fc, fc, tf]
    have h3 := hw.a3 t
    have fs := fo_spec hw (t := t) (k := μ.1 43 + 1) (g := μ.1 43) (by omega)
    -- the class's state before the step
    have ge := go_eq (σ := cI (cI (cput σ (tb t + 9) (μ.1 43) (μ.1 44 + 1)) (tb t) 7 (μ.1 43)) (tb t) 8 (μ.1 43 + 1)) (μ := μ) (t := t) (x := μ.1 43 + 1) (g := μ.1 43) hw (by show rowIs ((cput σ (tb t + 9) (μ.1 43) (μ.1 44 + 1)).1 (tb t + 7)) _ _ _; rw [p1 _ (by omega)]; exact tr.2.2.2.1) (by simp [cI, upI]) (by simp [cI, upI]) (by omega)
    have qp := mQ_push (r := c_mfollowing μ t (μ.1 43 + 1) (μ.1 43)) hw q h0 c d (fun z => by rcases fs with w | w; exact absurd z (by omega); exact w.2)
    have d2 : μ.1 45 ≤ 2 := by have := qp.1.1; have : μ.1 45 + 1 ≤ 3 := this; omega
    rw [ge]
    generalize hf : c_mfollowing μ t (μ.1 43 + 1) (μ.1 43) = f at *
    have hfl : f < (((cI (cI (cput σ (tb t + 9) (μ.1 43) (μ.1 44 + 1)) (tb t) 7 (μ.1 43)) (tb t) 8 (μ.1 43 + 1)).1 (tb t + 9)).length : Int) := by
      show f < (((cput σ (tb t + 9) (μ.1 43) (μ.1 44 + 1)).1 (tb t + 9)).length : Int)
      rw [p9, List.length_set]; rcases fs with w | w <;> omega
    have r9 : ∀ y, rat ((cI (cI (cput σ (tb t + 9) (μ.1 43) (μ.1 44 + 1)) (tb t) 7 (μ.1 43)) (tb t) 8 (μ.1 43 + 1)).1 (tb t + 9)) y = if y = μ.1 43 then μ.1 44 + 1 else rat (σ.1 (tb t + 9)) y := fun y => by
      show rat ((cput σ (tb t + 9) (μ.1 43) (μ.1 44 + 1)).1 (tb t + 9)) y = _
      rw [p9]
      by_cases ey : y = μ.1 43
      · rw [if_pos ey, ey, rat_set h0 (by omega)]
      · rw [if_neg ey, rat_set_ne h0 (by omega)]
    have fne : f ≠ μ.1 43 := by rcases fs with w | w <;> omega
    refine ⟨TabR_congr (σ := σ) (μ := μ) (fun r a b => (put_oth (by omega)).trans (p1 r (by omega))) (by rw [put_int, if_neg (by omega)]; simp [cI, upI, pi]) (by rw [put_int, if_neg (by omega)]; simp [cI, upI, pi]) (fun k a b => by simp [mfl, mar, upF, show k ≠ 46 by omega, show k ≠ 47 by omega]) tr, ?_, qp, ?_, ?_, ?_, fun z => ?_, fun j j0 j1 => ?_⟩
    · refine wfm_f (k := 44) (wfm_f (k := 43) (wfm_f (k := 45) (wfm_a (k := 47) (wfm_a (k := 46) (wfm_f (k := 44) hw (show (0 : Int) ≤ _ ∧ _ ≤ 99 by omega)) (show (0 : Int) ≤ _ ∧ _ ≤ 23 by omega)) (show (0 : Int) ≤ _ ∧ _ ≤ 99 by omega)) (show (0 : Int) ≤ _ ∧ _ ≤ 4 by omega)) (show (-1 : Int) ≤ _ ∧ _ ≤ 23 by rcases fs with w | w <;> omega)) (show (0 : Int) ≤ 0 ∧ 0 ≤ 99 by omega)
    · rw [had_len]
      show (((cput σ (tb t + 9) (μ.1 43) (μ.1 44 + 1)).1 (tb t + 9)).length : Int) = mat (μ.2 3) t
      rw [p9, List.length_set]; exact hl
    · rw [put_int, if_pos ⟨rfl, rfl⟩]; rfl
    · rw [put_int, if_neg (by omega)]
      show upI (upI σ.2.1 (tb t) 7 (μ.1 43)) (tb t) 8 (μ.1 43 + 1) (tb t) 7 = (if μ.1 45 + 1 = 0 then -1 else mat ((μ.2 46).set (μ.1 45).toNat (μ.1 43)) (μ.1 45 + 1 - 1))
      rw [if_neg (by omega), show μ.1 45 + 1 - 1 = μ.1 45 by omega, mat_set (by omega)]; simp [upI]
    · have z' : 0 ≤ f := z
      show rat _ f = 0
      rw [had_row hfl, if_pos ⟨z', rfl⟩]
    · show rat _ (mat ((μ.2 46).set (μ.1 45).toNat (μ.1 43)) j) = mat ((μ.2 47).set (μ.1 45).toNat (μ.1 44 + 1)) j
      have j1' : j < μ.1 45 + 1 := j1
      by_cases ej : j = μ.1 45
      · subst ej
        rw [mat_set (by omega), mat_set (by omega), had_row hfl, if_neg (fun z => fne z.2.symm), r9, if_pos rfl]
      · rw [mat_set_ne (by omega), mat_set_ne (by omega), had_row hfl]
        have qj := q.2.2.2 j j0 (by omega)
        have lt := mtop_ne q ok j0 (show j < μ.1 45 by omega) (Int.le_refl _)
        have n1 : mat (μ.2 46) j ≠ μ.1 43 := fun z => by
          have w := qs.2
          rw [← z, qj.2.2] at w; omega
        have n2 : ¬ (0 ≤ f ∧ mat (μ.2 46) j = f) := fun z => by
          rcases fs with w | w
          · omega
          · have w2 := w.2.2
            rw [← z.2, qj.2.2] at w2
            have l1 := (ok.1 _ h0 qs.1).1
            rw [qs.2] at l1
            omega
        rw [if_neg n2, r9, if_neg n1]; exact h2 j j0 (by omega)
  · rw [if_neg d, if_neg d]
    refine ⟨rfl, fun _ => ⟨TabR_congr (σ := σ) (μ := μ) (fun r a b => p1 r (by omega)) rfl rfl (fun k a b => rfl) tr, wfm_f (k := 44) hw (show (0 : Int) ≤ _ ∧ _ ≤ 99 by omega), mQ_had q h0 c, ?_, hi, hg, fun _ => ?_, fun j j0 j1 => ?_⟩⟩
    · show (((cput σ (tb t + 9) (μ.1 43) (μ.1 44 + 1)).1 (tb t + 9)).length : Int) = mat (μ.2 3) t
      rw [p9, List.length_set]; exact hl
    · show rat ((cput σ (tb t + 9) (μ.1 43) (μ.1 44 + 1)).1 (tb t + 9)) (μ.1 43) = μ.1 44 + 1
      rw [p9, rat_set h0 (by omega)]
    · show rat ((cput σ (tb t + 9) (μ.1 43) (μ.1 44 + 1)).1 (tb t + 9)) (mat (μ.2 46) j) = mat (μ.2 47) j
      have j1' : j < μ.1 45 := j1
      have qj := q.2.2.2 j j0 j1'
      have lt := mtop_ne q ok j0 j1' (Int.le_refl _)
      rw [p9, rat_set_ne h0 (fun z => by
        have w := qs.2
        rw [z, qj.2.2] at w; omega)]
      exact h2 j j0 j1'
