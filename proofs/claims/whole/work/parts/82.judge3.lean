/-! judge, as a whole -/
section BRt
variable {σ : cS} {μ : mS} {e : Nat} {N M : Int}
theorem BR_set {i v w : Int} (h : BR σ μ e N M) (hv : 0 ≤ v ∧ v ≤ 7) (hw : -1 ≤ w ∧ w ≤ 40) : BR σ (mar (mar μ 37 i v) 38 i w) e N M := by
  obtain ⟨a1, a2, a3, a4, a5, a6, a7⟩ := h
  exact ⟨a1, wfm_a (k := 38) (wfm_a (k := 37) a2 hv) hw, a3, fun t h0 h1 => TabR_congr (σ := σ) (μ := μ) (fun r a b => rfl) rfl rfl (fun k a b => by simp [mar, upF, show k ≠ 37 by omega, show k ≠ 38 by omega]) (a4 t h0 h1), a5, a6, a7⟩
theorem ty_eq (h : BR σ μ e N M) {j : Int} (h0 : 0 ≤ j) (h1 : j < M) : c_mtypeOf μ j = if 0 ≤ c_typeOf σ e j ∧ c_typeOf σ e j < 4 ∧ 0 < mat (μ.2 3) (c_typeOf σ e j) then c_typeOf σ e j else -1 := by
  have o := h.2.2.2.2.2.2 j h0 h1
  obtain ⟨b1, b2⟩ := J_comp h.2.2.1 (s := mat (μ.2 34) j) (u := 1) (by omega) (by omega) (by decide)
  have sr := size_r h.2.2.1 b2
  unfold c_mtypeOf c_typeOf
  rw [h.2.2.2.2.1.1.in h0 h1, b1, J_width h.2.2.1 b2]
  by_cases c : c_msizeOf μ (c_mcomponent μ (mat (μ.2 34) j) 1) = 1
  · rw [if_pos c, if_pos c, J_char h.2.2.1 b2 (Int.le_refl 0) (by omega)]
    have e1 : chM μ (c_mcomponent μ (mat (μ.2 34) j) 1) 0 = mat (μ.2 31) (mat (μ.2 30) (c_mcomponent μ (mat (μ.2 34) j) 1)) := by unfold chM; rw [Int.add_zero]
    rw [e1]
    generalize mat (μ.2 31) (mat (μ.2 30) (c_mcomponent μ (mat (μ.2 34) j) 1)) = x
    unfold c_isDigit
    by_cases d : 0 ≤ x - 48 ∧ x - 48 < 4
    · rw [if_pos (misT d), if_neg (show ¬ x < 48 by omega), if_neg (show ¬ 57 < x by omega), if_pos rfl]
      by_cases f : mat (μ.2 3) (x - 48) ≤ 0
      · rw [if_pos f, if_neg (fun z => by omega)]
      · rw [if_neg f, if_pos ⟨d.1, d.2, by omega⟩]
    · rw [if_neg (misF d)]
      by_cases f1 : x < 48
      · rw [if_pos f1, if_neg (show ¬ false = true by decide), if_neg (fun z => by omega)]
      · rw [if_neg f1]
        by_cases f2 : 57 < x
        · rw [if_pos f2, if_neg (show ¬ false = true by decide), if_neg (fun z => by omega)]
        · rw [if_neg f2, if_pos rfl, if_neg (fun z => by omega)]
  · rw [if_neg c, if_neg c, if_neg (misF (by omega)), if_neg (fun z => by omega)]
theorem judge_eq (h : BR σ μ e N M) {j : Int} (h0 : 0 ≤ j) (h1 : j < M) :
    ∃ (cd pl : Int) (τ : cS), (if 0 ≤ c_typeOf σ e j ∧ c_typeOf σ e j < 4 then c_judgeMessage σ e j (72 + 11 * Int.toNat (c_typeOf σ e j)) else c_judgeMessageN σ e j) = c_note τ e j cd pl ∧ (∀ r, r < 72 → τ.1 r = σ.1 r) ∧ WR μ (c_mjudge μ j) j cd pl ∧ (cd = 0 ∨ 0 ≤ pl) := by
  have o := h.2.2.2.2.2.2 j h0 h1
  have hw := h.2.1
  have hM := h.2.2.2.2.2.1
  have s24 := hw.f24
  have k42 : e ≤ 42 := kd_all (c := 0) (Q := fun e => e ≤ 42) (by decide) (by decide) h.1
  have l37 : (μ.2 37).length = 20 := hw.ln (k := 37) (by decide)
  have l38 : (μ.2 38).length = 20 := hw.ln (k := 38) (by decide)
  have r12 : rat (σ.1 (e + 12)) j = mat (μ.2 34) j := h.2.2.2.2.1.1.in h0 h1
  have r14 : rat (σ.1 (e + 14)) j = mat (μ.2 35) j := h.2.2.2.2.1.2.in h0 h1
  obtain ⟨b1, b2⟩ := h.ref h0 h1
  -- the class's way, its table set apart
  have cw : (if 0 ≤ c_typeOf σ e j ∧ c_typeOf σ e j < 4 then c_judgeMessage σ e j (72 + 11 * Int.toNat (c_typeOf σ e j)) else c_judgeMessageN σ e j) = if c_isRightReference σ e (c_mcomponent μ (mat (μ.2 34) j) 0) (mat (μ.2 35) j) = true then (if c_isRightCount σ e (mat (μ.2 35) j) (mat (μ.2 35) j - mat (μ.2 34) j + 1) = true then (if c_isRepeated σ e j = true then c_note σ e j 7 (mat (μ.2 34) j) else (if 0 ≤ c_typeOf σ e j ∧ c_typeOf σ e j < 4 then (if c_isEmpty σ (tb (c_typeOf σ e j)) = true then c_note σ e j 3 (mat (μ.2 34) j) else c_matchMessage σ e j (tb (c_typeOf σ e j))) else c_note σ e j 3 (mat (μ.2 34) j))) else c_note σ e j 2 (mat (μ.2 35) j)) else c_note σ e j 1 (mat (μ.2 35) j) := by
    unfold c_judgeMessage c_judgeMessageN
    rw [b1, r12, r14]
    by_cases c : 0 ≤ c_typeOf σ e j ∧ c_typeOf σ e j < 4
    · rw [if_pos c, if_pos c]; rfl
    · rw [if_neg c, if_neg c]
  rw [cw]
  have ck := mcheck_eq h.2.2.1 (s := mat (μ.2 34) j) (se := 0) (u := mat (μ.2 35) j) (v := mat (μ.2 35) j - mat (μ.2 34) j + 1) (by omega) (by omega) (by omega) (by omega) (by omega)
  have id37 : ∀ k, 0 ≤ k → k ≠ j → mat (μ.2 37) k = mat (μ.2 37) k := fun _ _ _ => rfl
  have id38 : ∀ k, 0 ≤ k → k ≠ j → mat (μ.2 38) k = mat (μ.2 38) k := fun _ _ _ => rfl
  unfold c_mjudge
  by_cases c1 : c_isRightReference σ e (c_mcomponent μ (mat (μ.2 34) j) 0) (mat (μ.2 35) j) = true
  case neg =>
    rw [if_neg c1]
    rw [if_neg c1] at ck
    refine ⟨1, mat (μ.2 35) j, σ, rfl, fun _ _ => rfl, ?_, Or.inr (by omega)⟩
    have e1 : c_mcheck μ (mat (μ.2 34) j) 0 (mat (μ.2 35) j) (mat (μ.2 35) j - mat (μ.2 34) j + 1) = 1 ∨ c_mcheck μ (mat (μ.2 34) j) 0 (mat (μ.2 35) j) (mat (μ.2 35) j - mat (μ.2 34) j + 1) = 3 := by
      rw [ck]; split
      · exact Or.inl rfl
      · exact Or.inr rfl
    rw [if_pos (by omega), if_neg (by omega)]
    exact WR_set id37 id38 l37 l38 (by omega)
  rw [if_pos c1]
  rw [if_pos c1] at ck
  by_cases c2 : c_isRightCount σ e (mat (μ.2 35) j) (mat (μ.2 35) j - mat (μ.2 34) j + 1) = true
  case neg =>
    rw [if_neg c2] at ck ⊢
    have e1 : c_mcheck μ (mat (μ.2 34) j) 0 (mat (μ.2 35) j) (mat (μ.2 35) j - mat (μ.2 34) j + 1) = 2 := ck
    refine ⟨2, mat (μ.2 35) j, σ, rfl, fun _ _ => rfl, ?_, Or.inr (by omega)⟩
    rw [e1, if_neg (show ¬ (2 : Int) % 2 = 1 by decide), if_neg (show ¬ (2 : Int) ≤ 0 by decide)]
    exact WR_set id37 id38 l37 l38 (by omega)
  rw [if_pos c2] at ck ⊢
  have e1 : c_mcheck μ (mat (μ.2 34) j) 0 (mat (μ.2 35) j) (mat (μ.2 35) j - mat (μ.2 34) j + 1) = 0 := ck
  rw [e1, if_neg (show ¬ (0 : Int) % 2 = 1 by decide), if_pos (show (0 : Int) ≤ 0 by decide)]
  have B1 : BR σ (mar (mar (mar μ 37 j 0) 38 j (mat (μ.2 35) j)) 38 j (mat (μ.2 34) j)) e N M := by
    have q := BR_set (i := j) (v := 0) (w := mat (μ.2 35) j) h (by omega) (by omega)
    have q2 := BR_set (i := j) (v := mat ((mar (mar μ 37 j 0) 38 j (mat (μ.2 35) j)).2 37) j) (w := mat (μ.2 34) j) q (by show (0 : Int) ≤ mat ((μ.2 37).set j.toNat 0) j ∧ mat ((μ.2 37).set j.toNat 0) j ≤ 7; rw [mat_set (by omega)]; omega) (by omega)
    obtain ⟨a1, a2, a3, a4, a5, a6, a7⟩ := q
    exact ⟨a1, wfm_a (k := 38) a2 (show (-1 : Int) ≤ _ ∧ _ ≤ 40 by omega), a3, fun t h0 h1 => TabR_congr (σ := σ) (μ := mar (mar μ 37 j 0) 38 j (mat (μ.2 35) j)) (fun r a b => rfl) rfl rfl (fun k a b => by simp [mar, upF, show k ≠ 37 by omega, show k ≠ 38 by omega]) (a4 t h0 h1), a5, a6, a7⟩
  generalize hμ1 : mar (mar (mar μ 37 j 0) 38 j (mat (μ.2 35) j)) 38 j (mat (μ.2 34) j) = μ1 at *
  have m34 : μ1.2 34 = μ.2 34 := by rw [← hμ1]; rfl
  have m35 : μ1.2 35 = μ.2 35 := by rw [← hμ1]; rfl
  have m25 : μ1.2 25 = μ.2 25 := by rw [← hμ1]; rfl
  have m3 : μ1.2 3 = μ.2 3 := by rw [← hμ1]; rfl
  have k37 : ∀ k, 0 ≤ k → k ≠ j → mat (μ1.2 37) k = mat (μ.2 37) k := fun k a b => by rw [← hμ1]; show mat ((μ.2 37).set j.toNat 0) k = _; exact mat_set_ne (by omega)
  have k38 : ∀ k, 0 ≤ k → k ≠ j → mat (μ1.2 38) k = mat (μ.2 38) k := fun k a b => by
    rw [← hμ1]; show mat (((μ.2 38).set j.toNat (mat (μ.2 35) j)).set j.toNat (mat (μ.2 34) j)) k = _
    rw [mat_set_ne (by omega), mat_set_ne (by omega)]
  have j38 : mat (μ1.2 38) j = mat (μ.2 34) j := by
    rw [← hμ1]; show mat (((μ.2 38).set j.toNat (mat (μ.2 35) j)).set j.toNat (mat (μ.2 34) j)) j = _
    exact mat_set (by rw [List.length_set]; omega)
  have n37 : (μ1.2 37).length = 20 := B1.2.1.ln (k := 37) (by decide)
  have n38 : (μ1.2 38).length = 20 := B1.2.1.ln (k := 38) (by decide)
  have rr := rep_run B1 (x := mat (μ.2 35) j) h0 h1 2002 0 20 (by omega) h0 (by omega) (by omega)
  rw [m34] at rr
  rw [rr]
  have er : c_isRepeatedL e j 2002 0 σ = c_isRepeated σ e j := rfl
  rw [er]
  have w1 : ∀ v, WR μ (mar μ1 37 j v) j v (mat (μ.2 34) j) := fun v => by
    refine ⟨?_, j38, fun k a b => ⟨?_, k38 k a b⟩⟩
    · show mat ((μ1.2 37).set j.toNat v) j = v; exact mat_set (by omega)
    · show mat ((μ1.2 37).set j.toNat v) k = _; rw [mat_set_ne (by omega)]; exact k37 k a b
  by_cases c3 : c_isRepeated σ e j = true
  · rw [if_pos c3, if_pos c3]
    exact ⟨7, _, σ, rfl, fun _ _ => rfl, w1 7, Or.inr (by omega)⟩
  rw [if_neg c3, if_neg c3]
  unfold TAIL
  have te := ty_eq B1 h0 h1
  rw [m3] at te
  generalize hty : c_typeOf σ e j = ty at *
  by_cases c4 : 0 ≤ ty ∧ ty < 4
  case neg =>
    have te2 : c_mtypeOf μ1 j = -1 := te.trans (if_neg (fun z => c4 ⟨z.1, z.2.1⟩))
    rw [if_neg c4, te2, if_neg (show ¬ (0 : Int) ≤ -1 by decide)]
    exact ⟨3, _, σ, rfl, fun _ _ => rfl, w1 3, Or.inr (by omega)⟩
  rw [if_pos c4]
  have tr := B1.2.2.2.1 ty c4.1 (by omega)
  have ln : ((σ.1 (tb ty + 1)).length : Int) = mat (μ.2 3) ty := by rw [← m3]; exact tr.1.1
  unfold c_isEmpty
  by_cases c5 : 0 < mat (μ.2 3) ty
  case neg =>
    have := (hw.a3 ty).1
    rw [if_pos (show (σ.1 (tb ty + 1)).length = 0 by omega), if_pos rfl, te.trans (if_neg (fun z => c5 z.2.2)), if_neg (show ¬ (0 : Int) ≤ -1 by decide)]
    exact ⟨3, _, σ, rfl, fun _ _ => rfl, w1 3, Or.inr (by omega)⟩
  rw [if_neg (show ¬ (σ.1 (tb ty + 1)).length = 0 by omega), if_neg (show ¬ false = true by decide), te.trans (if_pos ⟨c4.1, c4.2, c5⟩), if_pos c4.1]
  have ht : 0 ≤ ty ∧ ty ≤ 3 := ⟨c4.1, by omega⟩
  have st := start_eq ht B1.2.1 tr (by rw [m3]; exact c5)
  have tt : 72 ≤ tb ty := by unfold tb; omega
  have fs : ∀ r, r < 72 → (c_startMatch σ (tb ty)).1 r = σ.1 r := fun r hr => y_startMatch (by simp; omega)
  unfold c_matchMessage
  rw [fs (e + 12) (by omega), r12, r14]
  have pk := B1.2.2.1
  obtain ⟨cd, pl, τ, q1, q2, q3, q4⟩ := mm_run (e := e) (j := j) (i := j) (x := mat (μ.2 35) j) (s0 := mat (μ.2 34) j) ht k42 (by omega) (by omega) 100003001 (mat (μ.2 34) j + 1) _ _ 41 st (fun k a b => by
    rw [fs (e + 1 + 1) (by omega)]
    have n24 : μ1.1 24 = μ.1 24 := by rw [← hμ1]; rfl
    have p25 : rat (σ.1 (e + 1 + 1)) k = mat (μ1.2 25) k := pk.1.in (by omega) (by omega)
    have tp := pk.2.2.2.2.2.2.2.1 k (by omega) (by omega)
    exact ⟨p25, by show 0 < mat (μ1.2 25) k; omega⟩) (by omega) (by omega) (by omega) (by omega)
  refine ⟨cd, pl, τ, q1, fun r hr => (q2 r hr).trans (fs r hr), ⟨q3.1, q3.2.1, fun k a b => ?_⟩, q4⟩
  have z := q3.2.2 k a b
  exact ⟨z.1.trans (k37 k a b), z.2.trans (k38 k a b)⟩
end BRt
