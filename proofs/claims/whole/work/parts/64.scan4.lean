/-! a segment's tag, all segments -/
theorem cap_eq {σ : cS} {ν : mS} {c : Int} : c_isCapital σ c = c_misLetter ν c := rfl
theorem cap_r {σ : cS} {c : Int} (h : c_isCapital σ c = true) : 65 ≤ c ∧ c ≤ 90 := by
  unfold c_isCapital at h
  by_cases c1 : c < 65
  · rw [if_pos c1] at h; cases h
  · rw [if_neg c1] at h
    by_cases c2 : 90 < c
    · rw [if_pos c2] at h; cases h
    · omega
theorem SR.letter {σ : cS} {ν : mS} {p : Nat} {i j v : Int} (h : SR σ ν p i (ν.1 14)) (hj : i < j) (hl : j ≤ ν.1 1) : SR (cI σ 2 1 j) (mar ν 15 (ν.1 14) v) p j (ν.1 14) := by
  have h2 := h.go (j := j) (by omega) hl
  obtain ⟨x, p0, ⟨w1, w2, w3, w4, w5⟩, ⟨l1, l2, l3, l4, l5⟩, k0, k1, k2, k3, k4, k5⟩ := h2
  have f15 : (mar ν 15 (ν.1 14) v).2 15 = (ν.2 15).set (ν.1 14).toNat v := by simp [mar, upF]
  refine ⟨x, p0, ⟨?_, w2, w3, w4, w5⟩, ⟨?_, l2, l3, l4, l5⟩, k0, k1, fun s g0 g1 => ?_, k3, k4, k5⟩
  · rw [f15]; exact rowIs_out w1 (by omega) (by omega) (by omega)
  · rw [f15, List.length_set]; exact l1
  · rw [f15, mat_set_ne (by omega)]; exact k2 s g0 g1
theorem SR.tag {σ : cS} {ν : mS} {p : Nat} {i v : Int} (hp : kd p = 2) (hp2 : 13 ≤ p) (h : SR σ ν p i (ν.1 14)) (hS : ν.1 14 < 40) (hs : 4 * ν.1 14 + 3 + ν.1 19 + ν.1 21 ≤ i) (hv : mat (ν.2 15) (ν.1 14) = v) (hv2 : 4276545 ≤ v) : SR (c_addSegment σ p v) ν p i (ν.1 14 + 1) := by
  obtain ⟨⟨x1, x2, x3, m1, m2, m3, m4, m5, m6⟩, p0, ⟨w1, w2, w3, w4, w5⟩, l, k0, k1, k2, k3, k4, k5⟩ := h
  have k16 : mat (ν.2 16) (ν.1 14) = ν.1 17 := by
    rcases k1 with q | q
    · exact q.2.2
    · omega
  have e1 : cadd σ (p + 1) v = (upR σ.1 (p + 1) (σ.1 (p + 1) ++ [v]), σ.2) := cadd_eq (by have := w1.1; rw [cap2_1 hp]; omega)
  have u3 : upR σ.1 (p + 1) (σ.1 (p + 1) ++ [v]) (p + 3) = σ.1 (p + 3) := upR_ne (by omega)
  have u5 : upR σ.1 (p + 1) (σ.1 (p + 1) ++ [v]) (p + 5) = σ.1 (p + 5) := upR_ne (by omega)
  have e : c_addSegment σ p v = (upR (upR σ.1 (p + 1) (σ.1 (p + 1) ++ [v])) (p + 3) (σ.1 (p + 3) ++ [((σ.1 (p + 5)).length : Int)]), σ.2) := by
    unfold c_addSegment
    rw [e1, cadd_eq (by show (upR σ.1 _ _ _).length < _; rw [u3]; have := w2.1; rw [cap2_3 hp]; omega)]
    show (upR (upR σ.1 _ _) (p + 3) (upR σ.1 _ _ (p + 3) ++ [(((upR σ.1 _ _) (p + 5)).length : Int)]), _) = _
    rw [u3, u5]
  have r0 : ∀ r, r ≠ p + 1 → r ≠ p + 3 → (c_addSegment σ p v).1 r = σ.1 r := fun r hr h2 => by rw [e]; exact (upR_ne h2).trans (upR_ne hr)
  have r1 : (c_addSegment σ p v).1 (p + 1) = σ.1 (p + 1) ++ [v] := by rw [e]; exact (upR_ne (by omega)).trans upR_same
  have r3 : (c_addSegment σ p v).1 (p + 3) = σ.1 (p + 3) ++ [ν.1 17] := by rw [e, ← w3.1]; exact upR_same
  have i0 : (c_addSegment σ p v).2 = σ.2 := by rw [e]
  unfold SR SX MK SW
  rw [r0 3 (by omega) (by omega), r1, r3, r0 (p + 5) (by omega) (by omega), r0 (p + 7) (by omega) (by omega), r0 (p + 9) (by omega) (by omega), i0]
  refine ⟨⟨x1, x2, x3, m1, m2, m3, m4, m5, m6⟩, p0, ⟨rowIs_ext w1 hv, rowIs_ext w2 k16, w3, w4, w5⟩, l, k0, Or.inr ⟨rfl, hS, hs, by omega⟩, fun s g0 g1 => ?_, k3, k4, k5⟩
  by_cases es : s = ν.1 14
  · subst es; omega
  · exact k2 s g0 (by omega)
theorem nx_lt {ν : mS} {a c : Int} (ha : a < 3) : c_mnext ν a c = if c_misLetter ν c = true then (if ν.1 14 = 40 then (-1, ν) else if a = 0 then (a + 1, mar ν 15 (ν.1 14) c) else (a + 1, mar ν 15 (ν.1 14) (mat (ν.2 15) (ν.1 14) * 256 + c))) else (-1, ν) := by unfold c_mnext; rw [if_neg (by omega)]
theorem seg1_run {p : Nat} (hp : kd p = 2) (hp2 : 13 ≤ p) (fu : Nat) : ∀ (v k i : Int) (σ : cS) (ν : mS), SR σ ν p i (ν.1 14) → ν.1 14 < 40 → 0 ≤ k → k ≤ 3 → 3 - k < (fu : Int) → 4 * ν.1 14 + k + ν.1 19 + ν.1 21 ≤ i → (k = 0 → v = 0) → (1 ≤ k → v = mat (ν.2 15) (ν.1 14)) → (k = 1 → 65 ≤ v) → (k = 2 → 16705 ≤ v) → (k = 3 → 4276545 ≤ v) → (k = 0 → i < ν.1 1 ∨ ν.1 14 = 0) → SEG p (ν.1 14) (c_takeSegmentL1 2 p fu v k σ) (mrun i k ν) := by
  induction fu with
  | zero => intro v k i σ ν _ _ _ _ hf; omega
  | succ fu ih =>
    intro v k i σ ν h hS h0 h3 hf hs v0 v1 b1 b2 b3 hi
    unfold c_takeSegmentL1
    by_cases c0 : 3 ≤ k
    · rw [if_pos c0]
      have e : k = 3 := by omega
      subst e
      have hC := h.2.2.2.2.1
      exact seg2_run hp hp2 121 0 i 3 _ ν (h.tag hp hp2 hS hs (v1 (by omega)).symm (b3 rfl)) (Or.inl rfl) (fun q => by omega) (by omega) (by omega) (by omega)
    rw [if_neg c0]
    obtain ⟨x1, x2, x3, m1, m2, m3, m4, m5, m6⟩ := h.1
    obtain ⟨p1, p2, p3⟩ := h.2.1
    have l15 := h.2.2.2.1.1
    rw [p1]
    by_cases hj : i < ν.1 1
    · have ci : rat (σ.1 (2 + 1)) i = mat (ν.2 2) i := (h.chr i).trans (if_pos ⟨p2, hj⟩)
      rw [ci]
      have st := mrun_step (a := k) p2 hj x3 h0
      rw [nx_lt (ν := mfl ν 13 i) (show k < 3 by omega)] at st
      by_cases c1 : c_isCapital σ (mat (ν.2 2) i) = true
      · rw [if_pos c1]
        have cr := cap_r c1
        rw [if_pos (show c_misLetter (mfl ν 13 i) (mat (ν.2 2) i) = true from c1), if_neg (show ¬ (mfl ν 13 i).1 14 = 40 from (show ¬ ν.1 14 = 40 by omega))] at st
        by_cases ck : k = 0
        · subst ck
          rw [if_pos rfl] at st
          have hh := (h.f13 (v := i)).letter (j := i + 1) (v := mat (ν.2 2) i) (by omega) (show i + 1 ≤ ν.1 1 by omega)
          have e15 : mat ((mar (mfl ν 13 i) 15 (ν.1 14) (mat (ν.2 2) i)).2 15) (ν.1 14) = mat (ν.2 2) i := by
            show mat ((ν.2 15).set (ν.1 14).toNat (mat (ν.2 2) i)) (ν.1 14) = _
            have := h.2.2.2.2.1
            exact mat_set (by omega)
          have res := ih (v * 256 + mat (ν.2 2) i) (0 + 1) (i + 1) _ _ hh hS (by omega) (by omega) (by omega) (by show 4 * ν.1 14 + (0 + 1) + ν.1 19 + ν.1 21 ≤ i + 1; omega) (fun q => by omega) (fun _ => by rw [v0 rfl]; exact (by show 0 * 256 + _ = mat ((mar (mfl ν 13 i) 15 (ν.1 14) (mat (ν.2 2) i)).2 15) (ν.1 14); rw [e15]; omega)) (fun _ => by rw [v0 rfl]; omega) (fun q => by omega) (fun q => by omega) (fun q => by omega)
          rw [st]; exact res
        · rw [if_neg ck] at st
          have hh := (h.f13 (v := i)).letter (j := i + 1) (v := mat (ν.2 15) (ν.1 14) * 256 + mat (ν.2 2) i) (by omega) (show i + 1 ≤ ν.1 1 by omega)
          have e15 : mat ((mar (mfl ν 13 i) 15 (ν.1 14) (mat (ν.2 15) (ν.1 14) * 256 + mat (ν.2 2) i)).2 15) (ν.1 14) = mat (ν.2 15) (ν.1 14) * 256 + mat (ν.2 2) i := by
            show mat ((ν.2 15).set (ν.1 14).toNat _) (ν.1 14) = _
            have := h.2.2.2.2.1
            exact mat_set (by omega)
          have vv := v1 (by omega)
          have res := ih (v * 256 + mat (ν.2 2) i) (k + 1) (i + 1) _ _ hh hS (by omega) (by omega) (by omega) (by show 4 * ν.1 14 + (k + 1) + ν.1 19 + ν.1 21 ≤ i + 1; omega) (fun q => by omega) (fun _ => by show _ = mat ((mar (mfl ν 13 i) 15 (ν.1 14) (mat (ν.2 15) (ν.1 14) * 256 + mat (ν.2 2) i)).2 15) (ν.1 14); rw [e15, vv]) (fun q => by omega) (fun q => by have := b1 (by omega); omega) (fun q => by have := b2 (by omega); omega) (fun q => by omega)
          rw [st]; exact res
      · rw [if_neg c1]
        rw [if_neg (show ¬ c_misLetter (mfl ν 13 i) (mat (ν.2 2) i) = true from c1)] at st
        have st2 : mrun i k ν = mrun (i + 1) (-1) (mfl ν 13 i) := st
        rw [mrun_bad (a := -1) (by omega) (by omega) (by decide)] at st2
        exact Or.inr ⟨rfl, _, st2, by show i = σ.2.1 2 1; exact p1.symm, by show 0 ≤ i; exact p2⟩
    · have ci : rat (σ.1 (2 + 1)) i = -1 := (h.chr i).trans (if_neg (by omega))
      rw [ci, if_neg (show ¬ c_isCapital σ (-1) = true by unfold c_isCapital; rw [if_pos (by decide)]; decide)]
      refine Or.inr ⟨rfl, mfl ν 13 (ν.1 1), ?_, ?_, ?_⟩
      · rw [mrun_end p2 (by omega) (by omega) h0, decide_eq_false (by omega)]
      · show ν.1 1 = σ.2.1 2 1; omega
      · show 0 ≤ ν.1 1; omega
/-- the parts as the scan leaves them -/
def FIN (σ : cS) (ν : mS) (p : Nat) : Prop := rowIs (σ.1 (p + 1)) (ν.2 15) 0 (ν.1 14) ∧ rowIs (σ.1 (p + 3)) (ν.2 16) 0 (ν.1 14 + 1) ∧ rowIs (σ.1 (p + 5)) (ν.2 18) 0 (ν.1 17 + 1) ∧ rowIs (σ.1 (p + 7)) (ν.2 20) 0 (ν.1 19 + 1) ∧ rowIs (σ.1 (p + 9)) (ν.2 22) 0 (ν.1 21) ∧ partsOK (ν.2 15) (ν.2 16) (ν.2 18) (ν.2 20) (ν.1 14) (ν.1 17) (ν.1 19) (ν.1 21) ∧ 1 ≤ ν.1 14
theorem SR.fin {σ : cS} {ν : mS} {p : Nat} {i : Int} (hp : kd p = 2) (h : SR σ ν p i (ν.1 14)) (hS : 1 ≤ ν.1 14) : FIN (c_finish σ p) ν p := by
  obtain ⟨x, p0, ⟨w1, w2, w3, w4, w5⟩, l, k0, k1, k2, k3, k4, k5⟩ := h
  have x3 := x.2.2.1
  have kk : 4 * ν.1 14 + ν.1 19 + ν.1 21 ≤ i ∧ mat (ν.2 16) (ν.1 14) = ν.1 17 := by
    rcases k1 with q | q
    · exact q.2
    · omega
  have e1 : cadd σ (p + 3) ((σ.1 (p + 5)).length : Int) = (upR σ.1 (p + 3) (σ.1 (p + 3) ++ [ν.1 17]), σ.2) := by rw [← w3.1]; exact cadd_eq (by have := w2.1; rw [cap2_3 hp]; omega)
  have e2 : ∀ τ : cS, τ.1 (p + 5) = σ.1 (p + 5) → τ.1 (p + 7) = σ.1 (p + 7) → cadd τ (p + 5) ((τ.1 (p + 7)).length : Int) = (upR τ.1 (p + 5) (σ.1 (p + 5) ++ [ν.1 19]), τ.2) := fun τ h1 h2 => by
    rw [h2, ← w4.1, ← h1]; exact cadd_eq (by rw [h1]; have := w3.1; rw [cap2_5 hp]; omega)
  have e3 : ∀ τ : cS, τ.1 (p + 7) = σ.1 (p + 7) → τ.1 (p + 9) = σ.1 (p + 9) → cadd τ (p + 7) ((τ.1 (p + 9)).length : Int) = (upR τ.1 (p + 7) (σ.1 (p + 7) ++ [ν.1 21]), τ.2) := fun τ h1 h2 => by
    rw [h2, ← w5.1, ← h1]; exact cadd_eq (by rw [h1]; have := w4.1; rw [cap2_7 hp]; omega)
  have e : (c_finish σ p).1 = upR (upR (upR σ.1 (p + 3) (σ.1 (p + 3) ++ [ν.1 17])) (p + 5) (σ.1 (p + 5) ++ [ν.1 19])) (p + 7) (σ.1 (p + 7) ++ [ν.1 21]) := by
    unfold c_finish
    rw [e1, e2 _ (upR_ne (by omega)) (upR_ne (by omega)), e3 _ ((upR_ne (by omega)).trans (upR_ne (by omega))) ((upR_ne (by omega)).trans (upR_ne (by omega)))]
  unfold FIN
  rw [e]
  refine ⟨?_, ?_, ?_, ?_, ?_, ⟨by omega, by omega, k2, ⟨k3.1, kk.2, k3.2⟩, k4, k5⟩, hS⟩
  · rw [upR_ne (by omega), upR_ne (by omega), upR_ne (by omega)]; exact w1
  · rw [upR_ne (by omega), upR_ne (by omega), upR_same]; exact rowIs_ext w2 kk.2
  · rw [upR_ne (by omega), upR_same]; exact rowIs_ext w3 k4.2.1
  · rw [upR_same]; exact rowIs_ext w4 k5.2.1
  · rw [upR_ne (by omega), upR_ne (by omega), upR_ne (by omega)]; exact w5
def APT (p : Nat) (r : Int × cS) (m : Bool × mS) : Prop :=
  (r.1 = -1 ∧ m.1 = true ∧ FIN r.2 m.2 p) ∨ (0 ≤ r.1 ∧ m.1 = false ∧ m.2.1 13 = r.1)
theorem apart_run {p : Nat} (hp : kd p = 2) (hp2 : 13 ≤ p) (fu : Nat) : ∀ (s i : Int) (σ : cS) (ν : mS), SR σ ν p i (ν.1 14) → s = ν.1 14 → 40 - s < (fu : Int) → APT p (c_takeApartL 2 p fu s σ) (mrun i 0 ν) := by
  induction fu with
  | zero => intro s i σ ν h hs hf; have := h.2.2.2.2.1; omega
  | succ fu ih =>
    intro s i σ ν h hs hf
    have hC := h.2.2.2.2.1
    obtain ⟨x1, x2, x3, m1, m2, m3, m4, m5, m6⟩ := h.1
    obtain ⟨p1, p2, p3⟩ := h.2.1
    have len : ((σ.1 (2 + 1)).length : Int) = ν.1 1 := x1.1
    have szk : 4 * ν.1 14 + ν.1 19 + ν.1 21 ≤ i := by
      rcases h.2.2.2.2.2.1 with q | q
      · exact q.2.1
      · omega
    have done : 1 ≤ s → ν.1 1 ≤ i → APT p (-1, c_finish σ p) (mrun i 0 ν) := fun h1 h2 => by
      rw [mrun_end p2 (by omega) h2 (by omega), decide_eq_true (by omega)]
      exact Or.inl ⟨rfl, rfl, (show FIN (c_finish σ p) (mfl ν 13 (ν.1 1)) p from h.fin hp (show 1 ≤ ν.1 14 by omega))⟩
    have seg : s < 40 → (s = 0 ∨ i < ν.1 1) → APT p (if (c_takeSegment σ 2 p).1 = true then (c_takeApartL 2 p fu (s + 1) (c_takeSegment σ 2 p).2) else (((c_takeSegment σ 2 p).2.2.1 2 1), (c_takeSegment σ 2 p).2)) (mrun i 0 ν) := fun h1 h2 => by
      have res : SEG p (ν.1 14) (c_takeSegment σ 2 p) (mrun i 0 ν) := seg1_run hp hp2 4 0 0 i σ ν h (by omega) (by omega) (by omega) (by omega) (by omega) (fun _ => rfl) (fun q => by omega) (fun q => by omega) (fun q => by omega) (fun q => by omega) (fun _ => by omega)
      rcases res with ⟨r1, j, ν', r2, r3, r4⟩ | ⟨r1, ν', r2, r3, r4⟩
      · rw [if_pos r1, r2]
        exact ih (s + 1) j _ ν' r3 (by omega) (by omega)
      · rw [if_neg (by rw [r1]; decide), r2]
        exact Or.inr ⟨by show 0 ≤ (c_takeSegment σ 2 p).2.2.1 2 1; omega, rfl, r3⟩
    unfold c_takeApartL
    rw [p1, len]
    by_cases c0 : 40 ≤ s
    · rw [if_pos c0]
      by_cases c1 : ν.1 1 ≤ i
      · rw [if_pos c1]; exact done (by omega) c1
      · rw [if_neg c1]
        have st := mrun_step (a := 0) p2 (show i < ν.1 1 by omega) x3 (by omega)
        have bad : c_mnext (mfl ν 13 i) 0 (mat (ν.2 2) i) = (-1, mfl ν 13 i) := by
          rw [nx_lt (by omega)]
          split
          · exact if_pos (show ν.1 14 = 40 by omega)
          · rfl
        rw [bad] at st
        have st2 : mrun i 0 ν = mrun (i + 1) (-1) (mfl ν 13 i) := st
        rw [mrun_bad (a := -1) (by omega) (by omega) (by decide)] at st2
        rw [st2]; exact Or.inr ⟨p2, rfl, rfl⟩
    rw [if_neg c0]
    by_cases c1 : s = 0
    · rw [if_pos c1]; exact seg (by omega) (Or.inl c1)
    rw [if_neg c1]
    by_cases c2 : ν.1 1 ≤ i
    · rw [if_pos c2]; exact done (by omega) c2
    · rw [if_neg c2]; exact seg (by omega) (Or.inr (by omega))
