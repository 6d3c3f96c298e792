/-! matching: the loops -/
section CL
variable {t v n : Int} {μ : mS} {fu : Nat}
theorem comes_item (hn : n < 200) (h : 0 ≤ μ.1 43) : c_mcomesL t v (fu + 1) n μ = if c_mbegins μ t (μ.1 43) = v then tkI μ t else if mat (μ.2 5) ((24 * t) + (μ.1 43)) = 0 then c_mcomesL t v fu (n + 1) (c_mgoOn μ t) else if μ.1 44 = 0 then (5, μ) else c_mcomesL t v fu (n + 1) (c_mgoOn μ t) := by
  rw [c_mcomesL, if_neg (by omega), if_pos h]; rfl
theorem comes_pop (hn : n < 200) (h : μ.1 43 < 0) (h2 : 0 < μ.1 45) : c_mcomesL t v (fu + 1) n μ = c_mcomesL t v fu (n + 1) (popM μ) := by
  rw [c_mcomesL, if_neg (by omega), if_neg (by omega), if_neg (by omega)]; rfl
theorem comes_end (hn : n < 200) (h : μ.1 43 < 0) (h2 : μ.1 45 = 0) : c_mcomesL t v (fu + 1) n μ = (4, μ) := by
  rw [c_mcomesL, if_neg (by omega), if_neg (by omega), if_pos h2]
theorem lk_item (hn : n < 200) (h : 0 ≤ μ.1 43) : c_mlacksL t (fu + 1) 0 n μ = if mat (μ.2 5) ((24 * t) + (μ.1 43)) = 0 then c_mlacksL t fu 0 (n + 1) (c_mgoOn μ t) else if μ.1 44 = 0 then c_mlacksL t fu 1 (n + 1) (c_mgoOn μ t) else c_mlacksL t fu 0 (n + 1) (c_mgoOn μ t) := by
  rw [c_mlacksL, if_neg (by omega), if_pos h, if_pos rfl]
theorem lk_pop (hn : n < 200) (h : μ.1 43 < 0) (h2 : 0 < μ.1 45) : c_mlacksL t (fu + 1) 0 n μ = c_mlacksL t fu 0 (n + 1) (popM μ) := by
  rw [c_mlacksL, if_neg (by omega), if_neg (by omega), if_neg (by omega)]; rfl
theorem lk_end (hn : n < 200) (h : μ.1 43 < 0) (h2 : μ.1 45 = 0) : (c_mlacksL t (fu + 1) 0 n μ).1 = false := by
  rw [c_mlacksL, if_neg (by omega), if_neg (by omega), if_pos h2]; rfl
end CL
theorem lk_1 {t : Int} (fu : Nat) : ∀ (n : Int) (μ : mS), n ≤ 200 → 200 - n < (fu : Int) → (c_mlacksL t fu 1 n μ).1 = true := by
  induction fu with
  | zero => intro n μ _ h; omega
  | succ fu ih =>
    intro n μ h0 h
    rw [c_mlacksL]
    by_cases c : 200 ≤ n
    · rw [if_pos c]; rfl
    · rw [if_neg c]
      by_cases d : 0 ≤ μ.1 43
      · rw [if_pos d, if_neg (by decide)]; exact ih _ _ (by omega) (by omega)
      · rw [if_neg d]
        by_cases f : μ.1 45 = 0
        · rw [if_pos f]; rfl
        · rw [if_neg f]; exact ih _ _ (by omega) (by omega)
theorem match_run {t v : Int} (ht : 0 ≤ t ∧ t ≤ 3) (hv : 0 < v) (fu : Nat) : ∀ (k n : Int) (σ : cS) (μ : mS) (fu2 : Nat), MR σ μ t → 0 ≤ k → k + (left μ t : Int) ≤ 24 → 25 - k ≤ (fu : Int) → 0 ≤ n → n + (left μ t : Int) + μ.1 45 ≤ 100 → 200 - n < (fu2 : Int) →
    (c_tmatchL (tb t) v fu k σ).1 = (c_mcomesL t v fu2 n μ).1 ∧ ((c_mcomesL t v fu2 n μ).1 = 0 → MR (c_tmatchL (tb t) v fu k σ).2 (c_mcomesL t v fu2 n μ).2 t) := by
  induction fu with
  | zero => intro k n σ μ fu2 h h0 h1 h2; omega
  | succ fu ih =>
    intro k n σ μ fu2 h h0 h1 h2 h3 h4 h5
    have item : ∀ (σ : cS) (μ : mS) (n : Int) (fu2 : Nat), MR σ μ t → 0 ≤ μ.1 43 → k + (left μ t : Int) ≤ 24 → 0 ≤ n → n + (left μ t : Int) + μ.1 45 ≤ 100 → 200 - n < (fu2 : Int) →
        (if c_firstTag σ (tb t) = v then ((c_takeItem σ (tb t)).1, (c_takeItem σ (tb t)).2) else if c_isMissing σ (tb t) = true then (5, σ) else c_tmatchL (tb t) v fu (k + 1) (c_goOn σ (tb t))).1 = (c_mcomesL t v fu2 n μ).1 ∧ ((c_mcomesL t v fu2 n μ).1 = 0 → MR (if c_firstTag σ (tb t) = v then ((c_takeItem σ (tb t)).1, (c_takeItem σ (tb t)).2) else if c_isMissing σ (tb t) = true then (5, σ) else c_tmatchL (tb t) v fu (k + 1) (c_goOn σ (tb t))).2 (c_mcomesL t v fu2 n μ).2 t) := by
      intro σ μ n fu2 h g0 g1 g2 g3 g4
      have f45 := h.2.1.f45
      cases fu2 with
      | zero => omega
      | succ fu2 =>
        rw [comes_item (by omega) g0]
        have fe := first_eq h g0 hv
        by_cases c : c_mbegins μ t (μ.1 43) = v
        · rw [if_pos c, if_pos (fe.mpr c)]; exact take_eq ht h g0 hv c
        · rw [if_neg c, if_neg (fun z => c (fe.mp z))]
          have me := miss_eq h g0
          have lg := left_go h g0
          have go := ih (k + 1) (n + 1) _ _ fu2 (h.go ht g0) (by omega) (by omega) (by omega) (by omega) (by rw [mgo_45]; omega) (by omega)
          by_cases d : mat (μ.2 5) (24 * t + μ.1 43) = 0
          · rw [if_pos d, if_neg (fun z => (me.mp z).1 d)]; exact go
          · rw [if_neg d]
            by_cases f : μ.1 44 = 0
            · rw [if_pos f, if_pos (me.mpr ⟨d, f⟩)]; exact ⟨rfl, fun z => absurd (show (5 : Int) = 0 from z) (by decide)⟩
            · rw [if_neg f, if_neg (fun z => f (me.mp z).2)]; exact go
    have f45 := h.2.1.f45
    unfold c_tmatchL
    rw [if_neg (show ¬ 24 < k by omega)]
    rcases h.stand with ⟨a1, a2⟩ | ⟨a1, a2, a3⟩ | ⟨a1, a2, a3, a4, a5⟩
    · rw [a2, if_pos rfl]; exact item σ μ n fu2 h a1 h1 h3 h4 h5
    · cases fu2 with
      | zero => omega
      | succ fu2 =>
        rw [comes_end (by omega) a1 a2, if_neg (by rw [a3]; decide)]
        exact ⟨rfl, fun z => absurd (show (4 : Int) = 0 from z) (by decide)⟩
    · cases fu2 with
      | zero => omega
      | succ fu2 =>
        have lp := left_pop (t := t) h.2.2.1.1.1 a2
        rw [comes_pop (by omega) a1 a2, if_pos a3]
        exact item _ _ (n + 1) fu2 a4 a5 (by omega) (by omega) (by show n + 1 + _ + (μ.1 45 - 1) ≤ 100; omega) (by omega)
theorem end_run {t : Int} (ht : 0 ≤ t ∧ t ≤ 3) (fu : Nat) : ∀ (k n : Int) (σ : cS) (μ : mS) (fu2 : Nat), MR σ μ t → 0 ≤ k → k + (left μ t : Int) ≤ 24 → 25 - k ≤ (fu : Int) → 0 ≤ n → n + (left μ t : Int) + μ.1 45 ≤ 100 → 200 - n < (fu2 : Int) →
    (c_endMatchL (tb t) fu k σ).1 = if (c_mlacksL t fu2 0 n μ).1 = true then 5 else 0 := by
  induction fu with
  | zero => intro k n σ μ fu2 h h0 h1 h2; omega
  | succ fu ih =>
    intro k n σ μ fu2 h h0 h1 h2 h3 h4 h5
    have item : ∀ (σ : cS) (μ : mS) (n : Int) (fu2 : Nat), MR σ μ t → 0 ≤ μ.1 43 → k + (left μ t : Int) ≤ 24 → 0 ≤ n → n + (left μ t : Int) + μ.1 45 ≤ 100 → 200 - n < (fu2 : Int) →
        (if c_isMissing σ (tb t) = true then ((5 : Int), σ) else c_endMatchL (tb t) fu (k + 1) (c_goOn σ (tb t))).1 = if (c_mlacksL t fu2 0 n μ).1 = true then 5 else 0 := by
      intro σ μ n fu2 h g0 g1 g2 g3 g4
      have f45 := h.2.1.f45
      cases fu2 with
      | zero => omega
      | succ fu2 =>
        rw [lk_item (by omega) g0]
        have me := miss_eq h g0
        have lg := left_go h g0
        have go := ih (k + 1) (n + 1) _ _ fu2 (h.go ht g0) (by omega) (by omega) (by omega) (by omega) (by rw [mgo_45]; omega) (by omega)
        by_cases d : mat (μ.2 5) (24 * t + μ.1 43) = 0
        · rw [if_pos d, if_neg (fun z => (me.mp z).1 d)]; exact go
        · rw [if_neg d]
          by_cases f : μ.1 44 = 0
          · rw [if_pos f, if_pos (me.mpr ⟨d, f⟩), if_pos (lk_1 fu2 _ _ (by omega) (by omega))]
          · rw [if_neg f, if_neg (fun z => f (me.mp z).2)]; exact go
    have f45 := h.2.1.f45
    unfold c_endMatchL
    rw [if_neg (show ¬ 24 < k by omega)]
    rcases h.stand with ⟨a1, a2⟩ | ⟨a1, a2, a3⟩ | ⟨a1, a2, a3, a4, a5⟩
    · rw [a2, if_pos rfl]; exact item σ μ n fu2 h a1 h1 h3 h4 h5
    · cases fu2 with
      | zero => omega
      | succ fu2 =>
        rw [if_neg (by rw [a3]; decide), if_neg (by rw [lk_end (by omega) a1 a2]; decide)]
    · cases fu2 with
      | zero => omega
      | succ fu2 =>
        have lp := left_pop (t := t) h.2.2.1.1.1 a2
        rw [lk_pop (by omega) a1 a2, if_pos a3]
        exact item _ _ (n + 1) fu2 a4 a5 (by omega) (by omega) (by show n + 1 + _ + (μ.1 45 - 1) ≤ 100; omega) (by omega)
theorem match_eq {σ : cS} {μ : mS} {t v : Int} (ht : 0 ≤ t ∧ t ≤ 3) (hv : 0 < v) (h : MR σ μ t) : (c_tmatch σ (tb t) v).1 = (c_mcomes μ t v).1 ∧ ((c_mcomes μ t v).1 = 0 → MR (c_tmatch σ (tb t) v).2 (c_mcomes μ t v).2 t) := by
  have := left_le (t := t) h.2.1
  have := h.2.2.1.1.1
  exact match_run ht hv 26 0 0 σ μ 201 h (by omega) (by omega) (by omega) (by omega) (by omega) (by omega)
theorem endm_eq {σ : cS} {μ : mS} {t : Int} (ht : 0 ≤ t ∧ t ≤ 3) (h : MR σ μ t) : (c_endMatch σ (tb t)).1 = if (c_mlacks μ t).1 = true then 5 else 0 := by
  have := left_le (t := t) h.2.1
  have := h.2.2.1.1.1
  exact end_run ht 26 0 0 σ μ 201 h (by omega) (by omega) (by omega) (by omega) (by omega) (by omega)
/-- the match begins -/
theorem sm_L {b : Nat} (hb : kd b = 4) (fu : Nat) : ∀ (k : Int) (σ : cS), ((σ.1 (b + 9)).length : Int) = k → (∀ y, 0 ≤ y → y < k → rat (σ.1 (b + 9)) y = 0) → k ≤ ((σ.1 (b + 1)).length : Int) → (σ.1 (b + 1)).length ≤ 24 → 0 < (σ.1 (b + 1)).length → ((σ.1 (b + 1)).length : Int) - k < (fu : Int) →
    (∀ r, r ≠ b + 9 → (c_startMatchL b fu k σ).1 r = σ.1 r) ∧ (((c_startMatchL b fu k σ).1 (b + 9)).length : Int) = ((σ.1 (b + 1)).length : Int) ∧ (∀ y, 0 ≤ y → y < ((σ.1 (b + 1)).length : Int) → rat ((c_startMatchL b fu k σ).1 (b + 9)) y = 0) ∧ (c_startMatchL b fu k σ).2 = (upI (upI σ.2.1 b 7 (-1)) b 8 0, σ.2.2) := by
  induction fu with
  | zero => intro k σ _ _ _ _ _ h; omega
  | succ fu ih =>
    intro k σ h1 h2 h3 h4 h5 h6
    rw [c_startMatchL]
    by_cases c : ((σ.1 (b + 1)).length : Int) ≤ k
    · rw [if_pos c, if_neg (show ¬ ((cI σ b 7 (-1)).1 (b + 1)).length ≤ 0 by show ¬ (σ.1 (b + 1)).length ≤ 0; omega)]
      exact ⟨fun r hr => rfl, by show ((σ.1 (b + 9)).length : Int) = _; omega, fun y y0 y1 => h2 y y0 (by omega), rfl⟩
    · rw [if_neg c]
      have e : cadd σ (b + 9) 0 = (upR σ.1 (b + 9) (σ.1 (b + 9) ++ [0]), σ.2) := cadd_eq (by rw [cap4_9 hb]; omega)
      have r1 : (cadd σ (b + 9) 0).1 (b + 1) = σ.1 (b + 1) := by rw [e]; exact upR_ne (by omega)
      have r9 : (cadd σ (b + 9) 0).1 (b + 9) = σ.1 (b + 9) ++ [0] := by rw [e]; exact upR_same
      have res := ih (k + 1) (cadd σ (b + 9) 0) (by rw [r9, List.length_append]; simp; omega) (fun y y0 y1 => by
        rw [r9]
        by_cases ey : y = k
        · rw [rat_last (by omega)]
        · rw [rat_app y0 (by omega)]; exact h2 y y0 (by omega)) (by rw [r1]; omega) (by rw [r1]; exact h4) (by rw [r1]; exact h5) (by rw [r1]; omega)
      rw [r1] at res
      refine ⟨fun r hr => (res.1 r hr).trans (by rw [e]; exact upR_ne hr), res.2.1, res.2.2.1, ?_⟩
      rw [res.2.2.2, e]
theorem start_eq {σ : cS} {μ : mS} {t : Int} (ht : 0 ≤ t ∧ t ≤ 3) (hw : wfm μ) (tr : TabR σ μ t) (h0 : 0 < mat (μ.2 3) t) : MR (c_startMatch σ (tb t)) (mfl (mfl (mfl μ 45 0) 44 0) 43 (c_mfollowing (mfl (mfl μ 45 0) 44 0) t (-1) (-1))) t := by
  have ok := tr.2.2.2.2.2.2
  have kb := tb_kd ht.1 ht.2
  have h3 := hw.a3 t
  have l1 : ((σ.1 (tb t + 1)).length : Int) = mat (μ.2 3) t := tr.1.1
  have c1 : (cemp σ (tb t + 9)).1 (tb t + 1) = σ.1 (tb t + 1) := upR_ne (by omega)
  have c9 : (cemp σ (tb t + 9)).1 (tb t + 9) = [] := upR_same
  obtain ⟨s1, s2, s3, s4⟩ := sm_L kb 2001 0 (cemp σ (tb t + 9)) (by rw [c9]; rfl) (fun y y0 y1 => by omega) (by omega) (by rw [c1]; omega) (by rw [c1]; omega) (by rw [c1]; omega)
  have es : c_startMatchL (tb t) 2001 0 (cemp σ (tb t + 9)) = c_startMatch σ (tb t) := rfl
  rw [es] at s1 s2 s3 s4
  rw [c1] at s2 s3
  have fc : c_mfollowing (mfl (mfl μ 45 0) 44 0) t (-1) (-1) = 0 := by
    have e : c_mfollowing (mfl (mfl μ 45 0) 44 0) t (-1) (-1) = c_mfollowing μ t (-1) (-1) := fo_congr rfl rfl
    rw [e]
    have m0 : mi μ t 0 = -1 := by have := (ok.1 0 (by omega) h0).1; have := (hw.a7 (24 * t + 0)).1; unfold mi at *; omega
    unfold c_mfollowing
    rw [c_mfollowingL, show (-1 : Int) + 1 = 0 by decide, if_neg (by omega), if_pos m0]
  have q := mQ_init hw ok.2.2.2.2
  have i0 : ∀ k, k ≠ 7 → k ≠ 8 → (c_startMatch σ (tb t)).2.1 (tb t) k = σ.2.1 (tb t) k := fun k a b => by rw [s4]; show upI (upI σ.2.1 (tb t) 7 (-1)) (tb t) 8 0 (tb t) k = _; simp [upI, a, b]
  refine ⟨TabR_congr (σ := σ) (μ := μ) (fun r a b => (s1 r (by omega)).trans (upR_ne (by omega))) (i0 4 (by omega) (by omega)) (i0 5 (by omega) (by omega)) (fun k a b => rfl) tr, ?_, q, ?_, ?_, ?_, fun _ => ?_, fun j j0 j1 => absurd (show j < 0 from j1) (by omega)⟩
  · rw [fc]; exact wfm_f (k := 43) (wfm_f (k := 44) (wfm_f (k := 45) hw (show (0 : Int) ≤ 0 ∧ 0 ≤ 4 by omega)) (show (0 : Int) ≤ 0 ∧ 0 ≤ 99 by omega)) (show (-1 : Int) ≤ 0 ∧ 0 ≤ 23 by omega)
  · show (((c_startMatch σ (tb t)).1 (tb t + 9)).length : Int) = mat (μ.2 3) t; omega
  · rw [s4]; show upI (upI σ.2.1 (tb t) 7 (-1)) (tb t) 8 0 (tb t) 8 = c_mfollowing (mfl (mfl μ 45 0) 44 0) t (-1) (-1)
    rw [fc, upI_same]
  · rw [s4]; show upI (upI σ.2.1 (tb t) 7 (-1)) (tb t) 8 0 (tb t) 7 = -1
    simp [upI]
  · show rat ((c_startMatch σ (tb t)).1 (tb t + 9)) (c_mfollowing (mfl (mfl μ 45 0) 44 0) t (-1) (-1)) = 0
    rw [fc]; exact s3 0 (by omega) (by omega)
