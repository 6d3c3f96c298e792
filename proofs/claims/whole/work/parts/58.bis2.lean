/-! type -/
/-- the bytes that are not 0 among the last j of a long -/
def bl (x : Int64) : Nat → List Int
  | 0 => []
  | j + 1 => if byt x (8 * (j : Int)) = 0 then bl x j else byt x (8 * (j : Int)) :: bl x j
def bv (x : Int64) : Nat → Bool
  | 0 => true
  | j + 1 => if byt x (8 * (j : Int)) = 0 then bv x j else if byt x (8 * (j : Int)) < 32 then false else if 126 < byt x (8 * (j : Int)) then false else bv x j
theorem bl_len (x : Int64) : ∀ j, (bl x j).length ≤ j
  | 0 => Nat.le_refl _
  | j + 1 => by
    have := bl_len x j
    unfold bl; split
    · omega
    · rw [List.length_cons]; omega
theorem upR_upR {R : Nat → List Int} {r : Nat} {a b : List Int} : upR (upR R r a) r b = upR R r b := by
  funext k; unfold upR; split <;> rfl
theorem bl_2 {x : Int64} (j : Nat) (fu : Nat) (σ : cS) (hf : j < fu) (hl : (σ.1 3).length + (bl x j).length ≤ 400) : c_typeL2 x fu (8 * (j : Int) - 8) σ = (true, (upR σ.1 3 (σ.1 3 ++ bl x j), σ.2)) := by
  induction j generalizing fu σ with
  | zero =>
    cases fu with
    | zero => omega
    | succ fu =>
      unfold c_typeL2
      rw [if_pos (by omega)]
      unfold bl; rw [List.append_nil, upR_self]
  | succ j ih =>
    cases fu with
    | zero => omega
    | succ fu =>
      have e : 8 * ((j + 1 : Nat) : Int) - 8 = 8 * (j : Int) := by omega
      have e2 : 8 * (j : Int) + (-8) = 8 * (j : Int) - 8 := by omega
      unfold c_typeL2
      rw [if_neg (by omega), e, e2]
      unfold bl at hl ⊢
      split
      · rename_i c
        rw [if_pos c] at hl
        exact ih fu σ (by omega) hl
      · rename_i c
        rw [if_neg c, List.length_cons] at hl
        have ex : c_xadd σ 2 (byt x (8 * (j : Int))) = (upR σ.1 3 (σ.1 3 ++ [byt x (8 * (j : Int))]), σ.2) := by
          show (upR σ.1 (2 + 1) (if (σ.1 (2 + 1)).length < cap (2 + 1) then σ.1 (2 + 1) ++ [_] else σ.1 (2 + 1)), σ.2) = _
          rw [if_pos (by show (σ.1 3).length < 400; omega)]
        have e9 : ((upR σ.1 3 (σ.1 3 ++ [byt x (8 * (j : Int))]), σ.2) : cS).1 3 = σ.1 3 ++ [byt x (8 * (j : Int))] := by simp [upR]
        rw [ex, ih fu _ (by omega) (by rw [e9, List.length_append, List.length_singleton]; omega)]
        show (true, (upR (upR σ.1 3 _) 3 (upR σ.1 3 (σ.1 3 ++ [byt x (8 * (j : Int))]) 3 ++ bl x j), σ.2)) = _
        rw [upR_upR, upR_same, List.append_assoc]; rfl
theorem bl_1 {x : Int64} (j : Nat) (fu : Nat) (n : Int) (σ : cS) (hf : j < fu) : c_typeL1 x fu n (8 * (j : Int) - 8) σ = if bv x j = true ∧ (σ.1 3).length + (n + (bl x j).length) ≤ 400 then c_typeL2 x 65 56 σ else (false, σ) := by
  induction j generalizing fu n with
  | zero =>
    cases fu with
    | zero => omega
    | succ fu =>
      unfold c_typeL1
      rw [if_pos (by omega)]
      have e : c_xsize σ 2 = ((σ.1 3).length : Int) := rfl
      unfold bv bl
      rw [e]
      split
      · rw [if_pos ⟨rfl, by simp; omega⟩]
      · rw [if_neg (fun q => by have := q.2; simp at this; omega)]
  | succ j ih =>
    cases fu with
    | zero => omega
    | succ fu =>
      have e : 8 * ((j + 1 : Nat) : Int) - 8 = 8 * (j : Int) := by omega
      have e2 : 8 * (j : Int) + (-8) = 8 * (j : Int) - 8 := by omega
      rw [c_typeL1, if_neg (by omega), e, e2]
      by_cases c : byt x (8 * (j : Int)) = 0
      · rw [if_pos c, ih fu n (by omega)]
        have eb : bl x (j + 1) = bl x j := by rw [bl, if_pos c]
        have ev : bv x (j + 1) = bv x j := by rw [bv, if_pos c]
        rw [eb, ev]
      · rw [if_neg c]
        have eb : bl x (j + 1) = byt x (8 * (j : Int)) :: bl x j := by rw [bl, if_neg c]
        by_cases c2 : byt x (8 * (j : Int)) < 32
        · have ev : bv x (j + 1) = false := by rw [bv, if_neg c, if_pos c2]
          rw [if_pos c2, ev, if_neg (fun q => by cases q.1)]
        · rw [if_neg c2]
          by_cases c3 : 126 < byt x (8 * (j : Int))
          · have ev : bv x (j + 1) = false := by rw [bv, if_neg c, if_neg c2, if_pos c3]
            rw [if_neg (by omega), ev, if_neg (fun q => by cases q.1)]
          · have ev : bv x (j + 1) = bv x j := by rw [bv, if_neg c, if_neg c2, if_neg c3]
            rw [if_pos (by omega), ih fu (n + 1) (by omega), ev, eb, List.length_cons]
            have e3 : (σ.1 3).length + (n + 1 + ((bl x j).length : Int)) = (σ.1 3).length + (n + (((bl x j).length + 1 : Nat) : Int)) := by omega
            rw [e3]
theorem bl_m {x : Int64} (j : Nat) (fu : Nat) (n : Int) (ν : mS) (hf : j < fu) (h0 : 0 ≤ n) (h1 : n ≤ 400) (hl : (ν.2 2).length = 400) :
    (c_mtypeL x fu n ((j : Int) - 1) ν).1 = decide (bv x j = true ∧ n + (bl x j).length ≤ 400) ∧
    (∀ k, k ≠ 2 → (c_mtypeL x fu n ((j : Int) - 1) ν).2.2 k = ν.2 k) ∧
    (∀ i, 0 ≤ i → i < n → mat ((c_mtypeL x fu n ((j : Int) - 1) ν).2.2 2) i = mat (ν.2 2) i) ∧
    (∀ k, k ≠ 1 → (c_mtypeL x fu n ((j : Int) - 1) ν).2.1 k = ν.1 k) ∧
    ((c_mtypeL x fu n ((j : Int) - 1) ν).1 = false → (c_mtypeL x fu n ((j : Int) - 1) ν).2.1 1 = ν.1 1) ∧
    ((c_mtypeL x fu n ((j : Int) - 1) ν).1 = true → (c_mtypeL x fu n ((j : Int) - 1) ν).2.1 1 = n + (bl x j).length ∧ ∀ i : Nat, i < (bl x j).length → mat ((c_mtypeL x fu n ((j : Int) - 1) ν).2.2 2) (n + i) = (bl x j).getD i (-1)) := by
  induction j generalizing fu n ν with
  | zero =>
    cases fu with
    | zero => omega
    | succ fu =>
      have e0 : c_mtypeL x (fu + 1) n (((0 : Nat) : Int) - 1) ν = (true, mfl ν 1 n) := by rw [c_mtypeL, if_pos (by omega)]
      have eb : bl x 0 = [] := rfl
      have ev : bv x 0 = true := rfl
      rw [e0, eb, ev]
      refine ⟨by simp; omega, fun k _ => rfl, fun i _ _ => rfl, fun k hk => ?_, fun q => ?_, fun _ => ⟨?_, fun i hi => ?_⟩⟩
      · simp [mfl, upF, hk]
      · cases q
      · simp [mfl, upF]
      · simp at hi
  | succ j ih =>
    cases fu with
    | zero => omega
    | succ fu =>
      have e : ((j + 1 : Nat) : Int) - 1 = (j : Int) := by omega
      have e2 : (j : Int) + (-1) = (j : Int) - 1 := by omega
      rw [e]
      by_cases c : byt x (8 * (j : Int)) = 0
      · have e0 : c_mtypeL x (fu + 1) n (j : Int) ν = c_mtypeL x fu n ((j : Int) - 1) ν := by rw [c_mtypeL, if_neg (by omega), if_pos c, e2]
        have eb : bl x (j + 1) = bl x j := by rw [bl, if_pos c]
        have ev : bv x (j + 1) = bv x j := by rw [bv, if_pos c]
        rw [e0, eb, ev]
        exact ih fu n ν (by omega) h0 h1 hl
      have eb : bl x (j + 1) = byt x (8 * (j : Int)) :: bl x j := by rw [bl, if_neg c]
      have no : c_mtypeL x (fu + 1) n (j : Int) ν = (false, ν) → ¬ (bv x (j + 1) = true ∧ n + ((bl x (j + 1)).length : Int) ≤ 400) →
        (c_mtypeL x (fu + 1) n (j : Int) ν).1 = decide (bv x (j + 1) = true ∧ n + (bl x (j + 1)).length ≤ 400) ∧
        (∀ k, k ≠ 2 → (c_mtypeL x (fu + 1) n (j : Int) ν).2.2 k = ν.2 k) ∧
        (∀ i, 0 ≤ i → i < n → mat ((c_mtypeL x (fu + 1) n (j : Int) ν).2.2 2) i = mat (ν.2 2) i) ∧
        (∀ k, k ≠ 1 → (c_mtypeL x (fu + 1) n (j : Int) ν).2.1 k = ν.1 k) ∧
        ((c_mtypeL x (fu + 1) n (j : Int) ν).1 = false → (c_mtypeL x (fu + 1) n (j : Int) ν).2.1 1 = ν.1 1) ∧
        ((c_mtypeL x (fu + 1) n (j : Int) ν).1 = true → (c_mtypeL x (fu + 1) n (j : Int) ν).2.1 1 = n + (bl x (j + 1)).length ∧ ∀ i : Nat, i < (bl x (j + 1)).length → mat ((c_mtypeL x (fu + 1) n (j : Int) ν).2.2 2) (n + i) = (bl x (j + 1)).getD i (-1)) := fun e0 hno => by
          rw [e0]
          refine ⟨?_, fun k _ => rfl, fun i _ _ => rfl, fun k hk => rfl, fun _ => rfl, fun q => ?_⟩
          · symm; rw [decide_eq_false_iff_not]; exact hno
          · cases q
      by_cases c2 : byt x (8 * (j : Int)) < 32
      · have ev : bv x (j + 1) = false := by rw [bv, if_neg c, if_pos c2]
        exact no (by rw [c_mtypeL, if_neg (by omega), if_neg c, if_pos c2]) (fun q => by rw [ev] at q; cases q.1)
      by_cases c3 : 126 < byt x (8 * (j : Int))
      · have ev : bv x (j + 1) = false := by rw [bv, if_neg c, if_neg c2, if_pos c3]
        exact no (by rw [c_mtypeL, if_neg (by omega), if_neg c, if_neg c2, if_pos c3]) (fun q => by rw [ev] at q; cases q.1)
      by_cases c4 : n = 400
      · exact no (by rw [c_mtypeL, if_neg (by omega), if_neg c, if_neg c2, if_neg c3, if_pos c4]) (fun q => by have := q.2; rw [eb, List.length_cons] at this; omega)
      have ev : bv x (j + 1) = bv x j := by rw [bv, if_neg c, if_neg c2, if_neg c3]
      have e0 : c_mtypeL x (fu + 1) n (j : Int) ν = c_mtypeL x fu (n + 1) ((j : Int) - 1) (mar ν 2 n (byt x (8 * (j : Int)))) := by rw [c_mtypeL, if_neg (by omega), if_neg c, if_neg c2, if_neg c3, if_neg c4, e2]
      rw [e0, eb, ev]
      have e2n : (mar ν 2 n (byt x (8 * (j : Int)))).2 2 = (ν.2 2).set n.toNat (byt x (8 * (j : Int))) := by simp [mar, upF]
      obtain ⟨a1, a2, a3, a4, a5, a6⟩ := ih fu (n + 1) (mar ν 2 n (byt x (8 * (j : Int)))) (by omega) (by omega) (by omega) (by rw [e2n, List.length_set]; exact hl)
      refine ⟨?_, fun k hk => ?_, fun i g0 g1 => ?_, fun k hk => a4 k hk, fun q => a5 q, fun q => ?_⟩
      · rw [a1, List.length_cons]
        have : n + 1 + ((bl x j).length : Int) = n + (((bl x j).length + 1 : Nat) : Int) := by omega
        rw [this]
      · rw [a2 k hk]; simp [mar, upF, hk]
      · rw [a3 i g0 (by omega), e2n, mat_set_ne (by omega)]
      · obtain ⟨b1, b2⟩ := a6 q
        refine ⟨by rw [b1, List.length_cons]; omega, fun i hi => ?_⟩
        cases i with
        | zero =>
          rw [a3 (n + ((0 : Nat) : Int)) (by omega) (by omega), e2n]
          have : n + ((0 : Nat) : Int) = n := by omega
          rw [this, mat_set (by omega)]; rfl
        | succ i =>
          have : n + ((i + 1 : Nat) : Int) = n + 1 + (i : Int) := by omega
          rw [this, b2 i (by rw [List.length_cons] at hi; omega)]; rfl
theorem rat_app2 {row l : List Int} {i : Int} (h0 : (row.length : Int) ≤ i) : rat (row ++ l) i = l.getD (i - row.length).toNat (-1) := by
  unfold rat
  rw [if_pos (by omega), List.getD_eq_getElem?_getD, List.getD_eq_getElem?_getD, List.getElem?_append_right (by omega)]
  congr 2; omega
theorem rat_app1 {row l : List Int} {i : Int} (h0 : 0 ≤ i) (h1 : i < row.length) : rat (row ++ l) i = rat row i := by
  unfold rat
  rw [if_pos h0, if_pos h0, List.getD_eq_getElem?_getD, List.getD_eq_getElem?_getD, List.getElem?_append_left (by omega)]
theorem bl_vals (x : Int64) : ∀ j, bv x j = true → ∀ i : Nat, i < (bl x j).length → 32 ≤ (bl x j).getD i (-1) ∧ (bl x j).getD i (-1) ≤ 126
  | 0, _, i, hi => absurd hi (by unfold bl; simp)
  | j + 1, hv, i, hi => by
    unfold bv at hv
    unfold bl at hi ⊢
    by_cases c : byt x (8 * (j : Int)) = 0
    · simp only [if_pos c] at hv hi ⊢; exact bl_vals x j hv i hi
    · simp only [if_neg c] at hv hi ⊢
      by_cases c2 : byt x (8 * (j : Int)) < 32
      · rw [if_pos c2] at hv; cases hv
      rw [if_neg c2] at hv
      by_cases c3 : 126 < byt x (8 * (j : Int))
      · rw [if_pos c3] at hv; cases hv
      rw [if_neg c3] at hv
      cases i with
      | zero => exact ⟨by show 32 ≤ byt x (8 * (j : Int)); omega, by show byt x (8 * (j : Int)) ≤ 126; omega⟩
      | succ i => exact bl_vals x j hv i (by rw [List.length_cons] at hi; omega)
theorem B_type {σ : cS} {μ : mS} (h : R σ μ) (x : Int64) : (c_type σ x).1 = (c_mtype μ x).1 ∧ R (c_type σ x).2 (c_mtype μ x).2 := by
  obtain ⟨w1, w2, hrow, htx, a3, a4, a5, a6⟩ := id h
  have f1 := w2.f1
  have hl : ((mfl μ 0 0).2 2).length = 400 := w2.ln (k := 2) (by decide)
  have hm := bl_m (x := x) 8 9 (μ.1 1) (mfl μ 0 0) (by omega) f1.1 f1.2 hl
  have hmm : c_mtypeL x 9 (μ.1 1) (((8 : Nat) : Int) - 1) (mfl μ 0 0) = c_mtype μ x := rfl
  rw [hmm] at hm
  obtain ⟨m1, m2, m3, m4, m5, m6⟩ := hm
  have hc : c_type σ x = if bv x 8 = true ∧ ((σ.1 3).length : Int) + (0 + (bl x 8).length) ≤ 400 then c_typeL2 x 65 56 σ else (false, σ) := bl_1 (x := x) 8 65 0 σ (by omega)
  have hwm := w_mtype (x := x) w2
  have len := hrow.1
  by_cases c : bv x 8 = true ∧ ((σ.1 3).length : Int) + (0 + (bl x 8).length) ≤ 400
  · rw [if_pos c] at hc
    have h2 : c_typeL2 x 65 56 σ = _ := bl_2 (x := x) 8 65 σ (by omega) (by omega)
    rw [h2] at hc
    have t1 : (c_mtype μ x).1 = true := by rw [m1, decide_eq_true_eq]; exact ⟨c.1, by omega⟩
    obtain ⟨b1, b2⟩ := m6 t1
    have hwc := w_type (x := x) w1
    rw [hc] at hwc ⊢
    refine ⟨t1.symm, R_text h hwc hwm ⟨by rw [List.length_append, b1]; omega, fun i g0 g1 => ?_⟩ (fun i g0 g1 => ?_) (fun k q1 q2 => ?_) (fun k q1 q2 => ?_)⟩
    · rw [Int.zero_add]
      by_cases q : i < μ.1 1
      · rw [rat_app1 g0 (by omega), m3 i g0 q]; exact hrow.in g0 q
      · rw [rat_app2 (by omega)]
        have e := b2 (i - (σ.1 3).length).toNat (by omega)
        rw [← e]; congr 1; omega
    · by_cases q : i < μ.1 1
      · rw [m3 i g0 q]; exact htx i g0 q
      · have e := b2 (i - μ.1 1).toNat (by omega)
        have e2 : μ.1 1 + ((i - μ.1 1).toNat : Int) = i := by omega
        rw [e2] at e
        rw [e]; exact (bl_vals x 8 c.1 _ (by omega)).1
    · rw [m4 k (by omega)]; simp [mfl, upF, show k ≠ 0 by omega]
    · rw [m2 k (by omega)]; rfl
  · rw [if_neg c] at hc
    have t1 : (c_mtype μ x).1 = false := by rw [m1, decide_eq_false_iff_not]; exact fun q => c ⟨q.1, by omega⟩
    rw [hc]
    have f := m5 t1
    have f' : (c_mtype μ x).2.1 1 = μ.1 1 := f
    have es : σ = (upR σ.1 3 (σ.1 3), σ.2) := by rw [upR_self]
    refine ⟨t1.symm, ?_⟩
    show R σ _
    rw [es]
    refine R_text h (by rw [← es]; exact w1) hwm ?_ ?_ (fun k q1 q2 => ?_) (fun k q1 q2 => ?_)
    · rw [f']; exact ⟨hrow.1, fun i g0 g1 => by rw [Int.zero_add, m3 i g0 g1]; exact hrow.in g0 g1⟩
    · rw [f']; intro i g0 g1; rw [m3 i g0 g1]; exact htx i g0 g1
    · rw [m4 k (by omega)]; simp [mfl, upF, show k ≠ 0 by omega]
    · rw [m2 k (by omega)]; rfl
