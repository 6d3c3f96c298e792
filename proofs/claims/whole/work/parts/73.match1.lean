/-! matching: where both stand -/
def MR (σ : cS) (μ : mS) (t : Int) : Prop :=
  TabR σ μ t ∧ wfm μ ∧ mQ μ t ∧ ((σ.1 (tb t + 9)).length : Int) = mat (μ.2 3) t ∧ σ.2.1 (tb t) 8 = μ.1 43 ∧ σ.2.1 (tb t) 7 = mtop μ (μ.1 45) ∧
  (0 ≤ μ.1 43 → rat (σ.1 (tb t + 9)) (μ.1 43) = μ.1 44) ∧ (∀ j, 0 ≤ j → j < μ.1 45 → rat (σ.1 (tb t + 9)) (mat (μ.2 46) j) = mat (μ.2 47) j)
theorem mtop_lt {μ : mS} {t : Int} (h : mQ μ t) (ok : tabOK μ t) : ∀ (d : Nat) (j : Int), 0 ≤ j → j + d + 1 ≤ μ.1 45 → mtop μ j < mtop μ (j + d + 1)
  | 0, j, h0, h1 => by
    have q := h.2.2.2 j h0 (by omega)
    have r := ok.1 _ q.1 q.2.1
    rw [q.2.2] at r
    have e : mtop μ (j + ((0 : Nat) : Int) + 1) = mat (μ.2 46) j := by
      unfold mtop; rw [if_neg (by omega), show j + ((0 : Nat) : Int) + 1 - 1 = j by omega]
    rw [e]; exact r.1
  | d + 1, j, h0, h1 => by
    have a := mtop_lt h ok d j h0 (by omega)
    have b := mtop_lt h ok 0 (j + d + 1) (by omega) (by omega)
    have e : j + (d : Int) + 1 + ((0 : Nat) : Int) + 1 = j + ((d + 1 : Nat) : Int) + 1 := by omega
    rw [e] at b; omega
theorem mtop_ne {μ : mS} {t j k : Int} (h : mQ μ t) (ok : tabOK μ t) (h0 : 0 ≤ j) (h1 : j < k) (h2 : k ≤ μ.1 45) : mtop μ j < mtop μ k := by
  have := mtop_lt h ok (k - j - 1).toNat j h0 (by omega)
  rw [show j + ((k - j - 1).toNat : Int) + 1 = k by omega] at this; exact this
/-- the class's way to the next item -/
theorem goL_eq {σ : cS} {μ : mS} {t g kz : Int} (hr : rowIs (σ.1 (tb t + 7)) (μ.2 7) (24 * t) (mat (μ.2 3) t)) (hg : σ.2.1 (tb t) 7 = g) (fu2 : Nat) : ∀ (fu : Nat) (k : Int), 0 ≤ k → mat (μ.2 3) t - k < (fu : Int) → mat (μ.2 3) t - k < (fu2 : Int) → 1 ≤ (fu : Int) → 1 ≤ (fu2 : Int) → c_goOnL (tb t) fu (-1) k σ = cput (cI σ (tb t) 8 (c_mfollowingL t kz g fu2 k μ)) (tb t + 9) (c_mfollowingL t kz g fu2 k μ) 0 := by
  induction fu2 with
  | zero => intro fu k _ _ _ _ h; omega
  | succ fu2 ih =>
    intro fu k h0 h1 h2 h3 h4
    cases fu with
    | zero => omega
    | succ fu =>
      rw [c_goOnL, c_mfollowingL, hr.1]
      by_cases c : mat (μ.2 3) t ≤ k
      · rw [if_pos c, if_pos c]
      · rw [if_neg c, if_neg c, hr.2 k h0 (by omega), hg]
        by_cases d : mat (μ.2 7) (24 * t + k) = g
        · rw [if_pos d, if_pos d]
        · rw [if_neg d, if_neg d]
          exact ih fu (k + 1) (by omega) (by omega) (by omega) (by omega) (by omega)
theorem go_eq {σ : cS} {μ : mS} {t x g : Int} (hw : wfm μ) (hr : rowIs (σ.1 (tb t + 7)) (μ.2 7) (24 * t) (mat (μ.2 3) t)) (hx : σ.2.1 (tb t) 8 = x) (hg : σ.2.1 (tb t) 7 = g) (h0 : -1 ≤ x) : c_goOn σ (tb t) = cput (cI σ (tb t) 8 (c_mfollowing μ t x g)) (tb t + 9) (c_mfollowing μ t x g) 0 := by
  have h3 := hw.a3 t
  unfold c_goOn c_mfollowing
  rw [hx]
  exact goL_eq hr hg 25 200003002 (x + 1) (by omega) (by omega) (by omega) (by omega) (by omega)
/-- the row of how often an item was had, one of them set to 0 -/
theorem had_row {σ : cS} {b : Nat} {f v y : Int} (hf : f < ((σ.1 (b + 9)).length : Int)) : rat ((cput (cI σ b 8 v) (b + 9) f 0).1 (b + 9)) y = if 0 ≤ f ∧ y = f then 0 else rat (σ.1 (b + 9)) y := by
  have e : (cput (cI σ b 8 v) (b + 9) f 0).1 (b + 9) = if 0 ≤ f then (σ.1 (b + 9)).set f.toNat 0 else σ.1 (b + 9) := by simp [cput, cI, upR]
  rw [e]
  by_cases c : 0 ≤ f
  · rw [if_pos c]
    by_cases d : y = f
    · subst d; rw [if_pos ⟨c, rfl⟩, rat_set c hf]
    · rw [if_neg (fun q => d q.2), rat_set_ne c (by omega)]
  · rw [if_neg c, if_neg (fun q => c q.1)]
theorem had_len {σ : cS} {b : Nat} {f v : Int} : ((cput (cI σ b 8 v) (b + 9) f 0).1 (b + 9)).length = (σ.1 (b + 9)).length := by
  have e : (cput (cI σ b 8 v) (b + 9) f 0).1 (b + 9) = if 0 ≤ f then (σ.1 (b + 9)).set f.toNat 0 else σ.1 (b + 9) := by simp [cput, cI, upR]
  rw [e]; split
  · rw [List.length_set]
  · rfl
theorem put_oth {σ : cS} {b r : Nat} {f v : Int} (h : r ≠ b + 9) : (cput (cI σ b 8 v) (b + 9) f 0).1 r = σ.1 r := by simp [cput, cI, upR, h]
theorem put_int {σ : cS} {b p k : Nat} {f v : Int} : (cput (cI σ b 8 v) (b + 9) f 0).2.1 p k = if p = b ∧ k = 8 then v else σ.2.1 p k := by
  simp only [cput, cI, upI]
/-- on to the next item of the list -/
theorem MR.go {σ : cS} {μ : mS} {t : Int} (ht : 0 ≤ t ∧ t ≤ 3) (h : MR σ μ t) (h0 : 0 ≤ μ.1 43) : MR (c_goOn σ (tb t)) (c_mgoOn μ t) t := by
  obtain ⟨tr, hw, q, hl, hi, hg, h1, h2⟩ := h
  have ok := tr.2.2.2.2.2.2
  have ge := go_eq hw tr.2.2.2.1 hi hg (by omega)
  have e2 : (c_mgoOn μ t).2 = μ.2 := mgo_2
  have e45 : (c_mgoOn μ t).1 45 = μ.1 45 := mgo_45
  have hmt : mtop μ (μ.1 45) = if μ.1 45 = 0 then -1 else mat (μ.2 46) (μ.1 45 - 1) := rfl
  have e43 : (c_mgoOn μ t).1 43 = c_mfollowing μ t (μ.1 43) (mtop μ (μ.1 45)) := by
    unfold c_mgoOn
    rw [hmt]
    by_cases c : μ.1 45 = 0
    · rw [if_pos c, if_pos c]; rfl
    · rw [if_neg c, if_neg c]; rfl
  have e44 : (c_mgoOn μ t).1 44 = 0 := by
    unfold c_mgoOn
    by_cases c : μ.1 45 = 0
    · rw [if_pos c]; rfl
    · rw [if_neg c]; rfl
  have tt : ∀ j, mtop (c_mgoOn μ t) j = mtop μ j := fun j => by unfold mtop; rw [e2]
  have fs := fo_spec hw (t := t) (k := μ.1 43) (g := mtop μ (μ.1 45)) (by have := hw.f43; omega)
  have hf : c_mfollowing μ t (μ.1 43) (mtop μ (μ.1 45)) < ((σ.1 (tb t + 9)).length : Int) := by
    rcases fs with z | z <;> omega
  rw [ge]
  refine ⟨TabR_congr (fun r a b => put_oth (by omega)) (by rw [put_int, if_neg (by omega)]) (by rw [put_int, if_neg (by omega)]) (fun k a b => by rw [e2]) tr, w_mgoOn hw ht, mQ_go hw q, ?_, ?_, ?_, fun z => ?_, fun j j0 j1 => ?_⟩
  · rw [had_len, e2]; exact hl
  · rw [put_int, if_pos ⟨rfl, rfl⟩, e43]
  · rw [put_int, if_neg (by omega), e45, tt]; exact hg
  · rw [e43] at z ⊢
    rw [had_row hf, if_pos ⟨z, rfl⟩, e44]
  · rw [e45] at j1
    rw [e2, had_row hf]
    have qj := q.2.2.2 j j0 j1
    rw [if_neg, h2 j j0 j1]
    intro z
    rcases fs with w | w
    · omega
    · have := mtop_ne q ok j0 j1 (Int.le_refl _)
      rw [← z.2, qj.2.2] at w
      omega
/-- out of a group -/
def popM (μ : mS) : mS := mfl (mfl (mfl μ 45 (μ.1 45 - 1)) 43 (mat (μ.2 46) (μ.1 45 - 1))) 44 (mat (μ.2 47) (μ.1 45 - 1))
theorem popM_wf {μ : mS} (hw : wfm μ) (h : 0 < μ.1 45) : wfm (popM μ) := by
  have e1 := hw.a46 (μ.1 45 - 1)
  have e2 := hw.a47 (μ.1 45 - 1)
  have e3 := hw.f45
  exact wfm_f (k := 44) (wfm_f (k := 43) (wfm_f (k := 45) hw (show (0 : Int) ≤ _ ∧ _ ≤ 4 by omega)) (show (-1 : Int) ≤ _ ∧ _ ≤ 23 by omega)) (show (0 : Int) ≤ _ ∧ _ ≤ 99 by omega)
theorem MR.stand {σ : cS} {μ : mS} {t : Int} (h : MR σ μ t) :
    (0 ≤ μ.1 43 ∧ c_standAtItem σ (tb t) = (true, σ)) ∨ (μ.1 43 < 0 ∧ μ.1 45 = 0 ∧ (c_standAtItem σ (tb t)).1 = false) ∨ (μ.1 43 < 0 ∧ 0 < μ.1 45 ∧ (c_standAtItem σ (tb t)).1 = true ∧ MR (c_standAtItem σ (tb t)).2 (popM μ) t ∧ 0 ≤ (popM μ).1 43) := by
  obtain ⟨tr, hw, q, hl, hi, hg, h1, h2⟩ := h
  have f43 := hw.f43
  have f45 := hw.f45
  unfold c_standAtItem
  rw [hi, hg]
  by_cases c0 : 0 ≤ μ.1 43
  · rw [if_neg (by omega)]; exact Or.inl ⟨c0, rfl⟩
  · rw [if_pos (by omega)]
    by_cases c1 : μ.1 45 = 0
    · rw [if_pos (show mtop μ (μ.1 45) = -1 by unfold mtop; rw [if_pos c1])]; exact Or.inr (Or.inl ⟨by omega, c1, rfl⟩)
    · have qj := q.2.2.2 (μ.1 45 - 1) (by omega) (by omega)
      have em : mtop μ (μ.1 45) = mat (μ.2 46) (μ.1 45 - 1) := by unfold mtop; rw [if_neg c1]
      rw [em, if_neg (by omega)]
      refine Or.inr (Or.inr ⟨by omega, by omega, rfl, ?_, qj.1⟩)
      have ro : rat (σ.1 (tb t + 7)) (mat (μ.2 46) (μ.1 45 - 1)) = mi μ t (mat (μ.2 46) (μ.1 45 - 1)) := tr.2.2.2.1.2 _ qj.1 qj.2.1
      have ti : ∀ k, k ≠ 7 → k ≠ 8 → (cI (cI σ (tb t) 8 (mat (μ.2 46) (μ.1 45 - 1))) (tb t) 7 (rat ((cI σ (tb t) 8 (mat (μ.2 46) (μ.1 45 - 1))).1 (tb t + 7)) (mat (μ.2 46) (μ.1 45 - 1)))).2.1 (tb t) k = σ.2.1 (tb t) k := fun k a b => by simp [cI, upI, a, b]
      refine ⟨TabR_congr (σ := σ) (μ := μ) (fun r a b => rfl) (ti 4 (by omega) (by omega)) (ti 5 (by omega) (by omega)) (fun k a b => rfl) tr, popM_wf hw (by omega), mQ_pop q (by omega), hl, ?_, ?_, fun _ => h2 _ (by omega) (by omega), fun j j0 j1 => h2 j j0 (by have : j < μ.1 45 - 1 := j1; omega)⟩
      · simp [cI, upI, popM, mfl, upF]
      · show upI _ (tb t) 7 (rat (σ.1 (tb t + 7)) (mat (μ.2 46) (μ.1 45 - 1))) (tb t) 7 = mtop (popM μ) (μ.1 45 - 1)
        rw [upI_same, ro]; exact qj.2.2
