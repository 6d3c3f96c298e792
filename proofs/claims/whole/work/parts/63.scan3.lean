/-! elements, segments, the whole text -/
theorem isFull_eq {σ : cS} {p : Nat} {C : Int} (h : ((σ.1 (p + 7)).length : Int) = C) : c_isFull σ p = decide (120 ≤ C) := by
  unfold c_isFull
  by_cases c : (σ.1 (p + 7)).length < 120
  · rw [if_pos c, decide_eq_false (by omega)]
  · rw [if_neg c, decide_eq_true (by omega)]
theorem elem_run {p : Nat} (hp : kd p = 2) (hp2 : 13 ≤ p) {b : Int} (fu : Nat) : ∀ (k i : Int) (σ : cS) (ν : mS), SR (c_addComponent σ p) ν p i b → b = ν.1 14 + 1 → 1 ≤ ν.1 17 → 0 ≤ k → k + 1 ≤ ν.1 19 → 120 - k < (fu : Int) →
    ∃ (j : Int) (ν' : mS), mrun i 4 ν = mrun j 4 ν' ∧ SR (c_takeElementL 2 p fu k σ) ν' p j b ∧ KP ν ν' ∧ ν.1 19 ≤ ν'.1 19 ∧ (j = ν.1 1 ∨ j < ν.1 1 ∧ (mat (ν.2 2) j = ν.1 10 ∨ mat (ν.2 2) j = ν.1 12 ∨ mat (ν.2 2) j = ν.1 9 ∧ ν'.1 19 = 120)) := by
  induction fu with
  | zero => intro k i σ ν h _ _ _ _ hf; have := h.2.2.2.2.1; omega
  | succ fu ih =>
    intro k i σ ν h hb hE h0 hk hf
    have hC := h.2.2.2.2.1
    have h400 := h.1.2.2.1
    obtain ⟨j, ν1, q1, q2, q3, q4, q5, q6⟩ := comp_run hp hp2 100003001 i _ ν h hb (by omega) (by have := h.2.1; omega)
    have e1 : c_takeComponentL 2 p 100003001 (c_addComponent σ p) = c_takeComponent (c_addComponent σ p) 2 p := rfl
    rw [e1] at q2
    have n1 : ν1.1 1 = ν.1 1 := q3.1 1 (by omega) (by omega) (by omega) (by omega)
    have n9 : ν1.1 9 = ν.1 9 := q3.1 9 (by omega) (by omega) (by omega) (by omega)
    have n10 : ν1.1 10 = ν.1 10 := q3.1 10 (by omega) (by omega) (by omega) (by omega)
    have n12 : ν1.1 12 = ν.1 12 := q3.1 12 (by omega) (by omega) (by omega) (by omega)
    have n14 : ν1.1 14 = ν.1 14 := q3.1 14 (by omega) (by omega) (by omega) (by omega)
    have n2 : ν1.2 2 = ν.2 2 := q3.2
    obtain ⟨x1, x2, x3, m1, m2, m3, m4, m5, m6⟩ := q2.1
    obtain ⟨p1, p2, p3⟩ := q2.2.1
    unfold c_takeElementL
    rw [if_neg (show ¬ 120 ≤ k by omega), p1, m1, isFull_eq (C := ν1.1 19) q2.2.2.1.2.2.2.1.1]
    have ci : rat ((c_takeComponent (c_addComponent σ p) 2 p).1 (2 + 1)) j = if 0 ≤ j ∧ j < ν1.1 1 then mat (ν1.2 2) j else -1 := q2.chr j
    by_cases c1 : rat ((c_takeComponent (c_addComponent σ p) 2 p).1 (2 + 1)) j = ν1.1 9
    · rw [if_pos c1]
      have hj : j < ν1.1 1 := by
        by_cases c : j < ν1.1 1
        · exact c
        · rw [ci, if_neg (by omega)] at c1; omega
      rw [ci, if_pos ⟨p2, hj⟩] at c1
      by_cases c2 : 120 ≤ ν1.1 19
      · rw [if_pos (decide_eq_true c2)]
        exact ⟨j, ν1, q1, q2, q3, by omega, Or.inr ⟨by omega, Or.inr (Or.inr ⟨by rw [← n2, ← n9]; exact c1, by omega⟩)⟩⟩
      · rw [if_neg (by rw [decide_eq_false c2]; decide)]
        have st := mrun_step (a := 4) p2 hj x3 (by omega)
        rw [nx_co (ν := mfl ν1 13 j) (show ¬ mat (ν1.2 2) j = ν1.1 12 by omega) (show ¬ mat (ν1.2 2) j = ν1.1 10 by omega) c1, if_neg (show ¬ (mfl ν1 13 j).1 19 = 120 from (show ¬ ν1.1 19 = 120 by omega))] at st
        have h3 : SR (c_addComponent (cI (c_takeComponent (c_addComponent σ p) 2 p) 2 1 (j + 1)) p) (mar (c_mbeginComponent (mfl ν1 13 j)) 18 (ν1.1 17) (ν1.1 19 + 1)) p (j + 1) b := (q2.f13 (v := j)).comp (j := j + 1) hp hp2 (show b = ν1.1 14 + 1 by omega) (show 1 ≤ ν1.1 17 by omega) (show ν1.1 19 < 120 by omega) (by omega) (show j + 1 ≤ ν1.1 1 by omega)
        have f19 : (mar (c_mbeginComponent (mfl ν1 13 j)) 18 (ν1.1 17) (ν1.1 19 + 1)).1 19 = ν1.1 19 + 1 := by simp [c_mbeginComponent, mar, mfl, upF]
        have f1 : ∀ k, k ≠ 19 → k ≠ 13 → (mar (c_mbeginComponent (mfl ν1 13 j)) 18 (ν1.1 17) (ν1.1 19 + 1)).1 k = ν1.1 k := fun k hk h2 => by simp [c_mbeginComponent, mar, mfl, upF, hk, h2]
        have f2 : (mar (c_mbeginComponent (mfl ν1 13 j)) 18 (ν1.1 17) (ν1.1 19 + 1)).2 2 = ν1.2 2 := by simp [c_mbeginComponent, mar, mfl, upF]
        obtain ⟨j2, ν2, r1, r2, r3, r4, r5⟩ := ih (k + 1) (j + 1) _ _ h3 (by rw [f1 14 (by omega) (by omega)]; omega) (by rw [f1 17 (by omega) (by omega)]; omega) (by omega) (by rw [f19]; omega) (by omega)
        rw [f19] at r4
        rw [f1 1 (by omega) (by omega), f1 10 (by omega) (by omega), f1 12 (by omega) (by omega), f1 9 (by omega) (by omega), f2, n1, n10, n12, n9, n2] at r5
        refine ⟨j2, ν2, q1.trans (st.trans r1), r2, ⟨fun k a b c d => ?_, by rw [r3.2, f2, n2]⟩, by omega, r5⟩
        rw [r3.1 k a b c d, f1 k c a]; exact q3.1 k a b c d
    · rw [if_neg c1]
      refine ⟨j, ν1, q1, q2, q3, by omega, ?_⟩
      rcases q6 with q | ⟨q, q'⟩
      · exact Or.inl q
      · refine Or.inr ⟨q, ?_⟩
        rw [ci, if_pos ⟨p2, by omega⟩, n2, n9] at c1
        rcases q' with q' | q' | q'
        · exact absurd q' c1
        · exact Or.inl q'
        · exact Or.inr (Or.inl q')
/-- a segment ends -/
theorem SR.seg {σ : cS} {ν : mS} {p : Nat} {i j : Int} (h : SR σ ν p i (ν.1 14 + 1)) (hj : i < j) (hl : j ≤ ν.1 1) : SR (cI σ 2 1 j) (mar (mfl ν 14 (ν.1 14 + 1)) 16 (ν.1 14 + 1) (ν.1 17)) p j (ν.1 14 + 1) := by
  have h2 := h.go (j := j) (by omega) hl
  obtain ⟨⟨x1, x2, x3, m1, m2, m3, m4, m5, m6⟩, p0, ⟨w1, w2, w3, w4, w5⟩, ⟨l1, l2, l3, l4, l5⟩, k0, k1, k2, k3, k4, k5⟩ := h2
  have kk : ν.1 14 < 40 ∧ 4 * ν.1 14 + 3 + ν.1 19 + ν.1 21 ≤ i ∧ mat (ν.2 16) (ν.1 14) ≤ ν.1 17 := by
    rcases h.2.2.2.2.2.1 with q | q
    · omega
    · exact q.2
  have f16 : (mar (mfl ν 14 (ν.1 14 + 1)) 16 (ν.1 14 + 1) (ν.1 17)).2 16 = (ν.2 16).set (ν.1 14 + 1).toNat (ν.1 17) := by simp [mar, mfl, upF]
  have f14 : (mar (mfl ν 14 (ν.1 14 + 1)) 16 (ν.1 14 + 1) (ν.1 17)).1 14 = ν.1 14 + 1 := by simp [mar, mfl, upF]
  refine ⟨⟨x1, x2, x3, m1, m2, m3, m4, m5, m6⟩, p0, ⟨w1, ?_, w3, w4, w5⟩, ⟨l1, ?_, l3, l4, l5⟩, ?_⟩
  · rw [f16]; exact rowIs_out w2 (by omega) (by omega) (by omega)
  · rw [f16, List.length_set]; exact l2
  · unfold SK
    rw [f14, f16]
    refine ⟨⟨by omega, by omega, k0.2.2⟩, Or.inl ⟨rfl, ?_, ?_⟩, k2, ⟨?_, fun s g0 g1 => ?_⟩, k4, k5⟩
    · show 4 * (ν.1 14 + 1) + ν.1 19 + ν.1 21 ≤ j; omega
    · rw [mat_set (by omega)]; rfl
    · rw [mat_set_ne (by omega)]; exact k3.1
    · rw [mat_set_ne (by omega)]
      by_cases e : s = ν.1 14
      · subst e; rw [mat_set (by omega)]; exact kk.2.2
      · rw [mat_set_ne (by omega)]; exact k3.2 s g0 (by omega)
/-- how a segment's scan may end -/
def SEG (p : Nat) (S : Int) (r : Bool × cS) (m : Bool × mS) : Prop :=
  (r.1 = true ∧ ∃ (j : Int) (ν' : mS), m = mrun j 0 ν' ∧ SR r.2 ν' p j (ν'.1 14) ∧ ν'.1 14 = S + 1) ∨ (r.1 = false ∧ ∃ ν' : mS, m = (false, ν') ∧ ν'.1 13 = r.2.2.1 2 1 ∧ 0 ≤ ν'.1 13)
theorem seg2_run {p : Nat} (hp : kd p = 2) (hp2 : 13 ≤ p) (fu : Nat) : ∀ (k i a : Int) (σ : cS) (ν : mS), SR σ ν p i (ν.1 14 + 1) → (a = 3 ∨ a = 4) → (a = 4 → i = ν.1 1 ∨ i < ν.1 1 ∧ (mat (ν.2 2) i = ν.1 10 ∨ mat (ν.2 2) i = ν.1 12 ∨ mat (ν.2 2) i = ν.1 9 ∧ ν.1 19 = 120)) → 0 ≤ k → k ≤ ν.1 19 → 120 - k < (fu : Int) → SEG p (ν.1 14) (c_takeSegmentL2 2 p fu k σ) (mrun i a ν) := by
  induction fu with
  | zero => intro k i a σ ν h _ _ _ _ hf; have := h.2.2.2.2.1; omega
  | succ fu ih =>
    intro k i a σ ν h ha h4 h0 hk hf
    have hC := h.2.2.2.2.1
    obtain ⟨x1, x2, x3, m1, m2, m3, m4, m5, m6⟩ := h.1
    obtain ⟨p1, p2, p3⟩ := h.2.1
    have ci : rat (σ.1 (2 + 1)) i = if 0 ≤ i ∧ i < ν.1 1 then mat (ν.2 2) i else -1 := h.chr i
    -- the end of the segment, or none
    have fin : ¬ (rat (σ.1 (2 + 1)) i = ν.1 10 ∧ ν.1 19 < 120) → SEG p (ν.1 14) (if rat (σ.1 (2 + 1)) i = ν.1 12 then (true, cI σ 2 1 (i + 1)) else (false, σ)) (mrun i a ν) := fun hno => by
      by_cases c1 : rat (σ.1 (2 + 1)) i = ν.1 12
      · rw [if_pos c1]
        have hj : i < ν.1 1 := by
          by_cases c : i < ν.1 1
          · exact c
          · rw [ci, if_neg (by omega)] at c1; omega
        rw [ci, if_pos ⟨p2, hj⟩] at c1
        have st := mrun_step (a := a) p2 hj x3 (by omega)
        rw [nx_end (ν := mfl ν 13 i) ha c1] at st
        have h2 := (h.f13 (v := i)).seg (j := i + 1) (by omega) (show i + 1 ≤ ν.1 1 by omega)
        have f14 : (mar (mfl (mfl ν 13 i) 14 (ν.1 14 + 1)) 16 (ν.1 14 + 1) (ν.1 17)).1 14 = ν.1 14 + 1 := by simp [mar, mfl, upF]
        refine Or.inl ⟨rfl, i + 1, _, st, ?_, ?_⟩
        · show SR (cI σ 2 1 (i + 1)) (mar (mfl (mfl ν 13 i) 14 (ν.1 14 + 1)) 16 (ν.1 14 + 1) (ν.1 17)) p (i + 1) ((mar (mfl (mfl ν 13 i) 14 (ν.1 14 + 1)) 16 (ν.1 14 + 1) (ν.1 17)).1 14)
          rw [f14]; exact h2
        · exact f14
      · rw [if_neg c1]
        by_cases hj : i < ν.1 1
        · rw [ci, if_pos ⟨p2, hj⟩] at c1 hno
          have st := mrun_step (a := a) p2 hj x3 (by omega)
          have bad : c_mnext (mfl ν 13 i) a (mat (ν.2 2) i) = (-1, mfl ν 13 i) := by
            by_cases c2 : mat (ν.2 2) i = ν.1 10
            · rw [nx_el (ν := mfl ν 13 i) ha c1 c2]
              have : ν.1 19 = 120 := by omega
              exact if_pos this
            · rcases ha with e | e
              · subst e; exact nx_3 (ν := mfl ν 13 i) c1 c2
              · subst e
                rcases h4 rfl with q | ⟨q, q' | q' | q'⟩
                · omega
                · exact absurd q' c2
                · exact absurd q' c1
                · rw [nx_co (ν := mfl ν 13 i) c1 c2 q'.1]; exact if_pos q'.2
          rw [bad] at st
          have st2 : mrun i a ν = mrun (i + 1) (-1) (mfl ν 13 i) := st
          rw [mrun_bad (a := -1) (by omega) (by omega) (by decide)] at st2
          exact Or.inr ⟨rfl, _, st2, by show i = σ.2.1 2 1; exact p1.symm, by show 0 ≤ i; exact p2⟩
        · have e : i = ν.1 1 := by omega
          refine Or.inr ⟨rfl, mfl ν 13 (ν.1 1), ?_, ?_, ?_⟩
          · rw [mrun_end p2 (by omega) (by omega) (by omega), decide_eq_false (by omega)]
          · show ν.1 1 = σ.2.1 2 1; omega
          · show 0 ≤ ν.1 1; omega
    unfold c_takeSegmentL2
    rw [p1, m2, m4, isFull_eq (C := ν.1 19) h.2.2.1.2.2.2.1.1]
    by_cases c0 : 120 ≤ k
    · rw [if_pos c0]; exact fin (fun q => by omega)
    rw [if_neg c0]
    by_cases c1 : rat (σ.1 (2 + 1)) i = ν.1 10
    case neg => rw [if_neg c1]; exact fin (fun q => c1 q.1)
    rw [if_pos c1]
    by_cases c2 : 120 ≤ ν.1 19
    · rw [if_pos (decide_eq_true c2)]; exact fin (fun q => by omega)
    rw [if_neg (by rw [decide_eq_false c2]; decide)]
    have hj : i < ν.1 1 := by
      by_cases c : i < ν.1 1
      · exact c
      · rw [ci, if_neg (by omega)] at c1; omega
    rw [ci, if_pos ⟨p2, hj⟩] at c1
    have st := mrun_step (a := a) p2 hj x3 (by omega)
    rw [nx_el (ν := mfl ν 13 i) ha (show ¬ mat (ν.2 2) i = ν.1 12 by omega) c1, if_neg (show ¬ (mfl ν 13 i).1 19 = 120 from (show ¬ ν.1 19 = 120 by omega))] at st
    have h2 := (h.f13 (v := i)).elem (j := i + 1) hp hp2 rfl (show ν.1 19 < 120 by omega) (by omega) (show i + 1 ≤ ν.1 1 by omega)
    have f1 : ∀ k, k ≠ 19 → k ≠ 17 → k ≠ 13 → (c_mbeginElement (mfl ν 13 i)).1 k = ν.1 k := fun k hk h2 h3 => by simp [c_mbeginElement, c_mbeginComponent, mar, mfl, upF, hk, h2, h3]
    have f19 : (c_mbeginElement (mfl ν 13 i)).1 19 = ν.1 19 + 1 := by simp [c_mbeginElement, c_mbeginComponent, mar, mfl, upF]
    have f17 : (c_mbeginElement (mfl ν 13 i)).1 17 = ν.1 17 + 1 := by simp [c_mbeginElement, c_mbeginComponent, mar, mfl, upF]
    obtain ⟨j, ν2, q1, q2, q3, q4, q5⟩ := elem_run hp hp2 121 0 (i + 1) _ _ h2 (by rw [f1 14 (by omega) (by omega) (by omega)]) (by rw [f17]; omega) (by omega) (by rw [f19]; omega) (by omega)
    have e1 : c_takeElementL 2 p 121 0 (c_addElement (cI σ 2 1 (i + 1)) p) = c_takeElement (c_addElement (cI σ 2 1 (i + 1)) p) 2 p := rfl
    rw [e1] at q2
    have g : ∀ k, k ≠ 19 → k ≠ 17 → k ≠ 13 → k ≠ 21 → ν2.1 k = ν.1 k := fun k a b c d => (q3.1 k c b a d).trans (f1 k a b c)
    have g2 : ν2.2 2 = ν.2 2 := by rw [q3.2]; simp [c_mbeginElement, c_mbeginComponent, mar, mfl, upF]
    have gb : (c_mbeginElement (mfl ν 13 i)).2 2 = ν.2 2 := by simp [c_mbeginElement, c_mbeginComponent, mar, mfl, upF]
    rw [f19] at q4
    rw [f1 1 (by omega) (by omega) (by omega), f1 10 (by omega) (by omega) (by omega), f1 12 (by omega) (by omega) (by omega), f1 9 (by omega) (by omega) (by omega), gb] at q5
    have e14 := g 14 (by omega) (by omega) (by omega) (by omega)
    have res := ih (k + 1) j 4 _ ν2 (by rw [e14]; exact q2) (Or.inr rfl) (fun _ => by rw [g 1 (by omega) (by omega) (by omega) (by omega), g 10 (by omega) (by omega) (by omega) (by omega), g 12 (by omega) (by omega) (by omega) (by omega), g 9 (by omega) (by omega) (by omega) (by omega), g2]; exact q5) (by omega) (by omega) (by omega)
    rw [e14] at res
    rw [st]
    show SEG p _ _ (mrun (i + 1) 4 (c_mbeginElement (mfl ν 13 i)))
    rw [q1]; exact res
