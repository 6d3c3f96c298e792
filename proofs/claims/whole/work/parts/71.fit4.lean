/-! envelopes: as a whole -/
theorem eempty_row {σ : cS} {e r : Nat} (h : r < e + 12) : (c_eempty σ e).1 r = σ.1 r := by
  simp [c_eempty, cemp, upR, show r ≠ e + 12 by omega, show r ≠ e + 14 by omega, show r ≠ e + 16 by omega, show r ≠ e + 18 by omega, show r ≠ e + 20 by omega, show r ≠ e + 22 by omega, show r ≠ e + 24 by omega, show r ≠ e + 26 by omega, show r ≠ e + 28 by omega]
theorem FR_0 {σ : cS} {ν : mS} {e : Nat} {n : Int} (hl : FRl ν) : FR (cI (c_eempty σ e) e 11 1) (mfl (mfl ν 33 0) 39 0) e n 1 0 0 0 := by
  have z : ∀ r, r = e + 12 ∨ r = e + 14 ∨ r = e + 16 ∨ r = e + 18 ∨ r = e + 20 ∨ r = e + 22 ∨ r = e + 24 ∨ r = e + 26 ∨ r = e + 28 → (cI (c_eempty σ e) e 11 1).1 r = [] := fun r hr => by
    rcases hr with q | q | q | q | q | q | q | q | q <;> subst q <;> simp [cI, c_eempty, cemp, upR]
  refine ⟨⟨?_, ?_, ?_, ?_, ?_⟩, ⟨?_, ?_, ?_, ?_⟩, ⟨rfl, rfl, Int.le_refl _, Int.le_refl _, by omega, Int.le_refl _, by omega⟩, hl, ⟨fun i a b => by omega, fun i a b => by omega, fun i a b => by omega, fun i a b => by omega, fun i a b => by omega, fun q => by omega, fun q => by omega⟩, fun i a b => by omega⟩
  · rw [z _ (by omega)]; exact rowIs_nil
  · rw [z _ (by omega)]; exact rowIs_nil
  · rw [z _ (by omega)]; exact rowIs_nil
  · rw [z _ (by omega)]; rfl
  · rw [z _ (by omega)]; rfl
  · rw [z _ (by omega)]; exact rowIs_nil
  · rw [z _ (by omega)]; exact rowIs_nil
  · rw [z _ (by omega)]; rfl
  · rw [z _ (by omega)]; rfl
theorem fit_eq {σ : cS} {e : Nat} {ν1 ν' : mS} (he : kd e = 0) (hr : rowIs (σ.1 (e + 1 + 1)) (ν1.2 15) 0 (ν1.1 14)) (h1 : 1 ≤ ν1.1 14) (h40 : ν1.1 14 ≤ 40) (hl : FRl ν') (ha : TA ν' (ν1.2 15) (ν1.1 14)) :
    (c_fit σ e).1 = c_mwraps ν1 ∧ ((c_fit σ e).1 = true → ∃ M gg : Int, FR (c_fit σ e).2 (c_mtakeL5 41 1 (mfl (mfl ν' 33 0) 39 0)) e (ν1.1 14) (ν1.1 14 - 1) M gg gg ∧ 1 ≤ M ∧ 4 ≤ ν1.1 14 ∧ rowIs ((c_fit σ e).2.1 (e + 1 + 1)) (ν1.2 15) 0 (ν1.1 14)) := by
  generalize htg : ν1.2 15 = tg at *
  generalize hn : ν1.1 14 = n at *
  have re : (c_eempty σ e).1 (e + 1 + 1) = σ.1 (e + 1 + 1) := eempty_row (by omega)
  have hr2 : rowIs ((c_eempty σ e).1 (e + 1 + 1)) tg 0 n := by rw [re]; exact hr
  have t0 : c_tagOf (c_eempty σ e) (e + 1) 0 = mat tg 0 := hr2.in (by omega) (by omega)
  have sc : c_segmentCount (c_eempty σ e) (e + 1) = n := hr2.1
  have tz : c_tagOf (c_eempty σ e) (e + 1) (n - 1) = mat tg (n - 1) := hr2.in (by omega) (by omega)
  have t1 : c_tagOf (c_eempty σ e) (e + 1) 1 = if n = 1 then -1 else mat tg 1 := by
    by_cases q : n = 1
    · rw [if_pos q]; exact rat_out (Or.inr (by have := hr2.1; omega))
    · rw [if_neg q]; exact hr2.in (by omega) (by omega)
  unfold c_fit c_mwraps
  rw [sc, t0, tz, htg, hn]
  by_cases c0 : mat tg 0 = 5590594
  case neg =>
    rw [if_neg c0, if_neg c0]
    refine ⟨?_, fun q => by cases q⟩
    by_cases q : n < 4
    · rw [if_pos q]
    · rw [if_neg q]
  rw [if_pos c0, if_pos c0]
  by_cases cz : mat tg (n - 1) = 5590618
  case neg =>
    rw [if_neg cz, if_neg cz]
    refine ⟨?_, fun q => by cases q⟩
    by_cases q : n < 4
    · rw [if_pos q]
    · rw [if_neg q]
  rw [if_pos cz, if_pos cz]
  have n2 : 2 ≤ n := by
    rcases Int.lt_or_le n 2 with q | q
    · have : n - 1 = 0 := by omega
      rw [this, c0] at cz; omega
    · exact q
  rw [if_neg (by omega)] at t1
  rw [t1]
  have ft : FT (cI (c_eempty σ e) e 11 1) e tg n 1 := ⟨by simp [cI, upI], hr2⟩
  have fr := FR_0 (σ := σ) (ν := ν') (e := e) (n := n) hl
  have ta : TA (mfl (mfl ν' 33 0) 39 0) tg n := ⟨ha.1, ha.2⟩
  have tk : tkr 1 (mfl (mfl ν' 33 0) 39 0) = c_mtakeL5 41 1 (mfl (mfl ν' 33 0) 39 0) := rfl
  by_cases cg : mat tg 1 = 5590599
  · rw [if_pos cg, if_pos cg]
    have n3 : 3 ≤ n := by
      rcases Int.lt_or_le n 3 with q | q
      · have : n - 1 = 1 := by omega
        rw [this, cg] at cz; omega
      · exact q
    rcases gt_run he cz h40 htg 20 0 1 0 0 _ _ 42 ft fr ta (by omega) (by omega) rfl (by omega) (fun _ => rfl) (by omega) (by omega) (Or.inl (by omega)) with ⟨a1, a2, M, gg, a3, a4, a5⟩ | ⟨a1, a2⟩
    · have sz := a3.2.2.1
      rw [if_neg (show ¬ n < 4 by omega), a1, a2]
      rw [tk] at a3
      exact ⟨rfl, fun _ => ⟨M, gg, a3, a4, by omega, a5.2⟩⟩
    · rw [a1]
      refine ⟨?_, fun q => by cases q⟩
      by_cases q : n < 4
      · rw [if_pos q]
      · rw [if_neg q, a2]
  · rw [if_neg cg, if_neg cg]
    rcases ug_run he cz h40 htg 20 0 1 0 _ _ 41 ft fr ta (by omega) (by omega) rfl (by omega) (by omega) with ⟨a1, a2, a3, a4, M, a5, a6, a7⟩ | ⟨a1, a2⟩
    · have sz := a5.2.2.1
      have w : c_mwrapsL 42 n 0 1 ν1 = true := by
        rw [c_mwrapsL, if_neg (by omega), if_pos rfl, if_neg a2, if_neg a3, if_pos a4, c_mwrapsL, if_pos a4]
      rw [if_neg (show ¬ n < 4 by omega), a1, w]
      rw [tk] at a5
      exact ⟨rfl, fun _ => ⟨M, 0, a5, a6, by omega, a7.2⟩⟩
    · rw [a1]
      refine ⟨?_, fun q => by cases q⟩
      by_cases q : n < 4
      · rw [if_pos q]
      · rw [if_neg q, c_mwrapsL, if_neg (by omega), if_pos rfl]
        by_cases d1 : (c_mwrapsB n 0 41 1 0 ν1).1 = 1
        · rw [if_pos d1]
        · rw [if_neg d1]
          by_cases d2 : (c_mwrapsB n 0 41 1 0 ν1).2.2 = 0
          · rw [if_pos d2]
          · rw [if_neg d2, if_neg]
            rcases a2 with q2 | q2 | q2
            · exact absurd q2 d1
            · exact absurd q2 d2
            · omega
