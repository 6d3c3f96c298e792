/-! a component, an element -/
section NX
variable {ν : mS} {a c : Int}
theorem nx_5 : c_mnext ν 5 c = (4, c_mput ν c) := by unfold c_mnext; rw [if_pos (by decide), if_pos rfl]
theorem nx_end (ha : a = 3 ∨ a = 4) (h : c = ν.1 12) : c_mnext ν a c = (0, mar (mfl ν 14 (ν.1 14 + 1)) 16 (ν.1 14 + 1) (ν.1 17)) := by unfold c_mnext; rw [if_pos (by omega), if_neg (by omega), if_pos h]
theorem nx_el (ha : a = 3 ∨ a = 4) (h : ¬ c = ν.1 12) (h2 : c = ν.1 10) : c_mnext ν a c = if ν.1 19 = 120 then (-1, ν) else (4, c_mbeginElement ν) := by unfold c_mnext; rw [if_pos (by omega), if_neg (by omega), if_neg h, if_pos h2]
theorem nx_3 (h : ¬ c = ν.1 12) (h2 : ¬ c = ν.1 10) : c_mnext ν 3 c = (-1, ν) := by unfold c_mnext; rw [if_pos (by omega), if_neg (by omega), if_neg h, if_neg h2, if_pos rfl]
theorem nx_co (h : ¬ c = ν.1 12) (h2 : ¬ c = ν.1 10) (h3 : c = ν.1 9) : c_mnext ν 4 c = if ν.1 19 = 120 then (-1, ν) else (4, mar (c_mbeginComponent ν) 18 (ν.1 17) (ν.1 19 + 1)) := by unfold c_mnext; rw [if_pos (by omega), if_neg (by omega), if_neg h, if_neg h2, if_neg (by omega), if_pos h3]
theorem nx_rel (h : ¬ c = ν.1 12) (h2 : ¬ c = ν.1 10) (h3 : ¬ c = ν.1 9) (h4 : c = ν.1 11) : c_mnext ν 4 c = (5, ν) := by unfold c_mnext; rw [if_pos (by omega), if_neg (by omega), if_neg h, if_neg h2, if_neg (by omega), if_neg h3, if_pos h4]
theorem nx_chr (h : ¬ c = ν.1 12) (h2 : ¬ c = ν.1 10) (h3 : ¬ c = ν.1 9) (h4 : ¬ c = ν.1 11) : c_mnext ν 4 c = (4, c_mput ν c) := by unfold c_mnext; rw [if_pos (by omega), if_neg (by omega), if_neg h, if_neg h2, if_neg (by omega), if_neg h3, if_neg h4]
end NX
/-- what a stretch inside a segment leaves alone -/
def KP (ν ν' : mS) : Prop := (∀ k, k ≠ 13 → k ≠ 17 → k ≠ 19 → k ≠ 21 → ν'.1 k = ν.1 k) ∧ ν'.2 2 = ν.2 2
theorem KP.rf {ν : mS} : KP ν ν := ⟨fun _ _ _ _ _ => rfl, rfl⟩
theorem KP.tr {ν ν' ν'' : mS} (h : KP ν ν') (h2 : KP ν' ν'') : KP ν ν'' := ⟨fun k a b c d => (h2.1 k a b c d).trans (h.1 k a b c d), h2.2.trans h.2⟩
theorem KP.f13 {ν : mS} {v : Int} : KP ν (mfl ν 13 v) := ⟨fun k a b c d => by simp [mfl, upF, a], rfl⟩
theorem KP.put {ν : mS} {c : Int} : KP ν (c_mput ν c) := ⟨fun k a b c d => by rw [put_1]; simp [upF, d], by rw [put_2]; simp [upF]⟩
theorem comp_run {p : Nat} (hp : kd p = 2) (hp2 : 13 ≤ p) {b : Int} (fu : Nat) : ∀ (i : Int) (σ : cS) (ν : mS), SR σ ν p i b → b = ν.1 14 + 1 → 1 ≤ ν.1 19 → ν.1 1 - i < (fu : Int) →
    ∃ (j : Int) (ν' : mS), mrun i 4 ν = mrun j 4 ν' ∧ SR (c_takeComponentL 2 p fu σ) ν' p j b ∧ KP ν ν' ∧ ν'.1 17 = ν.1 17 ∧ ν'.1 19 = ν.1 19 ∧ (j = ν.1 1 ∨ j < ν.1 1 ∧ (mat (ν.2 2) j = ν.1 9 ∨ mat (ν.2 2) j = ν.1 10 ∨ mat (ν.2 2) j = ν.1 12)) := by
  induction fu with
  | zero => intro i σ ν h _ _ hf; have := h.2.1; omega
  | succ fu ih =>
    intro i σ ν h hb hC hf
    have len : ((σ.1 (2 + 1)).length : Int) = ν.1 1 := h.1.1.1
    obtain ⟨x1, x2, x3, m1, m2, m3, m4, m5, m6⟩ := h.1
    obtain ⟨p1, p2, p3⟩ := h.2.1
    unfold c_takeComponentL
    rw [p1, len]
    by_cases c0 : ν.1 1 ≤ i
    · rw [if_pos c0]; exact ⟨i, ν, rfl, h, KP.rf, rfl, rfl, Or.inl (by omega)⟩
    have ci : rat (σ.1 (2 + 1)) i = mat (ν.2 2) i := (h.chr i).trans (if_pos ⟨by omega, by omega⟩)
    rw [if_neg c0, ci, m1, m2, m3, m4]
    by_cases c1 : mat (ν.2 2) i = ν.1 9
    · rw [if_pos c1]; exact ⟨i, ν, rfl, h, KP.rf, rfl, rfl, Or.inr ⟨by omega, Or.inl c1⟩⟩
    rw [if_neg c1]
    by_cases c2 : mat (ν.2 2) i = ν.1 10
    · rw [if_pos c2]; exact ⟨i, ν, rfl, h, KP.rf, rfl, rfl, Or.inr ⟨by omega, Or.inr (Or.inl c2)⟩⟩
    rw [if_neg c2]
    by_cases c3 : mat (ν.2 2) i = ν.1 12
    · rw [if_pos c3]; exact ⟨i, ν, rfl, h, KP.rf, rfl, rfl, Or.inr ⟨by omega, Or.inr (Or.inr c3)⟩⟩
    rw [if_neg c3]
    have st := mrun_step (a := 4) p2 (show i < ν.1 1 by omega) x3 (by omega)
    by_cases c4 : mat (ν.2 2) i = ν.1 11
    · rw [if_pos c4]
      rw [nx_rel (ν := mfl ν 13 i) c3 c2 c1 c4] at st
      by_cases c5 : i + 1 < ν.1 1
      · have ci1 : rat ((cI σ 2 1 (i + 1)).1 (2 + 1)) (i + 1) = mat (ν.2 2) (i + 1) := (h.chr (i + 1)).trans (if_pos ⟨by omega, c5⟩)
        have y := x2 (i + 1) (by omega) c5
        rw [ci1, if_neg (show ¬ mat (ν.2 2) (i + 1) = -1 by omega)]
        have st2 := mrun_step (i := i + 1) (a := 5) (ν := mfl ν 13 i) (by omega) c5 x3 (by omega)
        rw [nx_5] at st2
        have h2 : SR (cI σ 2 1 (i + 1)) (mfl (mfl ν 13 i) 13 (i + 1)) p (i + 1) b := (h.go (j := i + 1) (by omega) (by omega)).f13.f13
        have h3 := h2.put (c := mat (ν.2 2) (i + 1)) (j := i + 1 + 1) hp hp2 hb hC (by omega) (show i + 1 + 1 ≤ ν.1 1 by omega)
        obtain ⟨j, ν', q1, q2, q3, q4, q5, q6⟩ := ih (i + 1 + 1) _ _ h3 hb hC (by show ν.1 1 - _ < _; omega)
        exact ⟨j, ν', st.trans (st2.trans q1), q2, (KP.f13.tr (KP.f13.tr KP.put)).tr q3, q4, q5, q6⟩
      · have ci1 : rat ((cI σ 2 1 (i + 1)).1 (2 + 1)) (i + 1) = -1 := (h.chr (i + 1)).trans (if_neg (by omega))
        rw [ci1, if_pos rfl]
        refine ⟨i + 1, mfl ν 13 i, ?_, (h.go (j := i + 1) (by omega) (by omega)).f13, KP.f13, rfl, rfl, Or.inl (by omega)⟩
        show _ = mrun (i + 1) 4 (mfl ν 13 i)
        rw [st]
        show mrun (i + 1) 5 (mfl ν 13 i) = _
        rw [mrun_end (by omega) (by omega) (show (mfl ν 13 i).1 1 ≤ i + 1 by show ν.1 1 ≤ i + 1; omega) (by omega), mrun_end (by omega) (by omega) (show (mfl ν 13 i).1 1 ≤ i + 1 by show ν.1 1 ≤ i + 1; omega) (by omega)]
        rw [decide_eq_false (by omega), decide_eq_false (by omega)]
    · rw [if_neg c4]
      have y := x2 i p2 (by omega)
      rw [if_neg (show ¬ mat (ν.2 2) i = -1 by omega)]
      rw [nx_chr (ν := mfl ν 13 i) c3 c2 c1 c4] at st
      have h3 := (h.f13 (v := i)).put (c := mat (ν.2 2) i) (j := i + 1) hp hp2 hb hC (by omega) (show i + 1 ≤ ν.1 1 by omega)
      obtain ⟨j, ν', q1, q2, q3, q4, q5, q6⟩ := ih (i + 1) _ _ h3 hb hC (by show ν.1 1 - _ < _; omega)
      exact ⟨j, ν', st.trans q1, q2, (KP.f13.tr KP.put).tr q3, q4, q5, q6⟩
theorem beC_2 {ν : mS} : (c_mbeginComponent ν).2 20 = ((ν.2 20).set (ν.1 19).toNat (ν.1 21)).set (ν.1 19 + 1).toNat (ν.1 21) := rfl
/-- a component more, of the element that is there -/
theorem SR.comp {σ : cS} {ν : mS} {p : Nat} {i b j : Int} (hp : kd p = 2) (hp2 : 13 ≤ p) (h : SR σ ν p i b) (hb : b = ν.1 14 + 1) (hE : 1 ≤ ν.1 17) (hC : ν.1 19 < 120) (hj : i < j) (hl : j ≤ ν.1 1) : SR (c_addComponent (cI σ 2 1 j) p) (mar (c_mbeginComponent ν) 18 (ν.1 17) (ν.1 19 + 1)) p j b := by
  obtain ⟨⟨x1, x2, x3, m1, m2, m3, m4, m5, m6⟩, ⟨p1, p2, p3⟩, ⟨w1, w2, w3, w4, w5⟩, ⟨l1, l2, l3, l4, l5⟩, k0, k1, k2, k3, k4, k5⟩ := h
  have kk : ν.1 14 < 40 ∧ 4 * ν.1 14 + 3 + ν.1 19 + ν.1 21 ≤ i ∧ mat (ν.2 16) (ν.1 14) ≤ ν.1 17 := by
    rcases k1 with q | q
    · omega
    · exact q.2
  have e : c_addComponent (cI σ 2 1 j) p = (upR σ.1 (p + 7) (σ.1 (p + 7) ++ [((σ.1 (p + 9)).length : Int)]), upI σ.2.1 2 1 j, σ.2.2) := cadd_eq (σ := cI σ 2 1 j) (by show (σ.1 (p + 7)).length < _; have := w4.1; rw [cap2_7 hp]; omega)
  have f1 : ∀ k, k ≠ 19 → (mar (c_mbeginComponent ν) 18 (ν.1 17) (ν.1 19 + 1)).1 k = ν.1 k := fun k hk => by simp [c_mbeginComponent, mar, mfl, upF, hk]
  have f2 : ∀ k, k ≠ 18 → k ≠ 20 → (mar (c_mbeginComponent ν) 18 (ν.1 17) (ν.1 19 + 1)).2 k = ν.2 k := fun k h1 h2 => by simp [c_mbeginComponent, mar, mfl, upF, h1, h2]
  have f19 : (mar (c_mbeginComponent ν) 18 (ν.1 17) (ν.1 19 + 1)).1 19 = ν.1 19 + 1 := by simp [c_mbeginComponent, mar, mfl, upF]
  have f18 : (mar (c_mbeginComponent ν) 18 (ν.1 17) (ν.1 19 + 1)).2 18 = (ν.2 18).set (ν.1 17).toNat (ν.1 19 + 1) := by simp [c_mbeginComponent, mar, mfl, upF]
  have f20 : (mar (c_mbeginComponent ν) 18 (ν.1 17) (ν.1 19 + 1)).2 20 = ((ν.2 20).set (ν.1 19).toNat (ν.1 21)).set (ν.1 19 + 1).toNat (ν.1 21) := by simp [c_mbeginComponent, mar, mfl, upF]
  have r0 : ∀ r, r ≠ p + 7 → (c_addComponent (cI σ 2 1 j) p).1 r = σ.1 r := fun r hr => by rw [e]; exact upR_ne hr
  have r7 : (c_addComponent (cI σ 2 1 j) p).1 (p + 7) = σ.1 (p + 7) ++ [ν.1 21] := by rw [e, ← w5.1]; exact upR_same
  have i0 : ∀ k, k ≠ 1 → (c_addComponent (cI σ 2 1 j) p).2.1 2 k = σ.2.1 2 k := fun k hk => by rw [e]; show upI σ.2.1 2 1 j 2 k = _; simp [upI, hk]
  unfold SR SX MK SW LN SK
  rw [r0 3 (by omega), r0 (p + 1) (by omega), r0 (p + 3) (by omega), r0 (p + 5) (by omega), r7, r0 (p + 9) (by omega), i0 2 (by omega), i0 3 (by omega), i0 4 (by omega), i0 5 (by omega), f1 1 (by omega), f1 9 (by omega), f1 10 (by omega), f1 11 (by omega), f1 12 (by omega), f1 14 (by omega), f1 17 (by omega), f19, f1 21 (by omega), f2 2 (by omega) (by omega), f2 15 (by omega) (by omega), f2 16 (by omega) (by omega), f18, f20, f2 22 (by omega) (by omega)]
  refine ⟨⟨x1, x2, x3, m1, m2, m3, m4, m5, m6⟩, ⟨?_, by omega, hl⟩, ⟨w1, w2, rowIs_out w3 (by omega) (by omega) (by omega), ?_, w5⟩, ⟨l1, l2, by rw [List.length_set]; exact l3, by rw [List.length_set, List.length_set]; exact l4, l5⟩, by omega, Or.inr ⟨hb, kk.1, by omega, kk.2.2⟩, k2, k3, ⟨?_, mat_set (by omega), fun x g0 g1 => ?_⟩, ⟨?_, mat_set (by rw [List.length_set]; omega), fun x g0 g1 => ?_⟩⟩
  · rw [e]; show upI σ.2.1 2 1 j 2 1 = _; simp [upI]
  · have := rowIs_add (v := ν.1 21) w4 (by omega) (by omega)
    rw [Int.zero_add] at this
    exact rowIs_out this (by omega) (by omega) (by omega)
  · rw [mat_set_ne (by omega)]; exact k4.1
  · rw [mat_set_ne (by omega)]
    have y := k4.2.2 x g0 g1
    by_cases ex : x + 1 = ν.1 17
    · rw [ex, mat_set (by omega)]; rw [ex, k4.2.1] at y; omega
    · rw [mat_set_ne (by omega)]; exact y
  · rw [mat_set_ne (by omega)]
    by_cases ec : ν.1 19 = 0
    · have y : mat ((ν.2 20).set (ν.1 19).toNat (ν.1 21)) 0 = ν.1 21 := by rw [ec]; exact mat_set (by omega)
      rw [y]; rw [ec] at k5; omega
    · rw [mat_set_ne (by omega)]; exact k5.1
  · rw [mat_set_ne (by omega)]
    by_cases ex : x = ν.1 19
    · subst ex; rw [mat_set (by omega), mat_set (by rw [List.length_set]; omega)]; omega
    · have y := k5.2.2 x g0 (by omega)
      rw [mat_set_ne (by omega), mat_set_ne (show (ν.1 19 + 1).toNat ≠ (x + 1).toNat by omega)]
      by_cases ex2 : x + 1 = ν.1 19
      · rw [ex2, mat_set (by omega)]; rw [ex2, k5.2.1] at y; exact y
      · rw [mat_set_ne (by omega)]; exact y
/-- an element more, with its first component -/
theorem SR.elem {σ : cS} {ν : mS} {p : Nat} {i b j : Int} (hp : kd p = 2) (hp2 : 13 ≤ p) (h : SR σ ν p i b) (hb : b = ν.1 14 + 1) (hC : ν.1 19 < 120) (hj : i < j) (hl : j ≤ ν.1 1) : SR (c_addComponent (c_addElement (cI σ 2 1 j) p) p) (c_mbeginElement ν) p j b := by
  obtain ⟨⟨x1, x2, x3, m1, m2, m3, m4, m5, m6⟩, ⟨p1, p2, p3⟩, ⟨w1, w2, w3, w4, w5⟩, ⟨l1, l2, l3, l4, l5⟩, k0, k1, k2, k3, k4, k5⟩ := h
  have kk : ν.1 14 < 40 ∧ 4 * ν.1 14 + 3 + ν.1 19 + ν.1 21 ≤ i ∧ mat (ν.2 16) (ν.1 14) ≤ ν.1 17 := by
    rcases k1 with q | q
    · omega
    · exact q.2
  have e1 : c_addElement (cI σ 2 1 j) p = (upR σ.1 (p + 5) (σ.1 (p + 5) ++ [((σ.1 (p + 7)).length : Int)]), upI σ.2.1 2 1 j, σ.2.2) := cadd_eq (σ := cI σ 2 1 j) (by show (σ.1 (p + 5)).length < _; have := w3.1; rw [cap2_5 hp]; omega)
  have u7 : upR σ.1 (p + 5) (σ.1 (p + 5) ++ [((σ.1 (p + 7)).length : Int)]) (p + 7) = σ.1 (p + 7) := upR_ne (by omega)
  have u9 : upR σ.1 (p + 5) (σ.1 (p + 5) ++ [((σ.1 (p + 7)).length : Int)]) (p + 9) = σ.1 (p + 9) := upR_ne (by omega)
  have e : c_addComponent (c_addElement (cI σ 2 1 j) p) p = (upR (upR σ.1 (p + 5) (σ.1 (p + 5) ++ [((σ.1 (p + 7)).length : Int)])) (p + 7) (σ.1 (p + 7) ++ [((σ.1 (p + 9)).length : Int)]), upI σ.2.1 2 1 j, σ.2.2) := by
    rw [e1]
    unfold c_addComponent
    rw [cadd_eq (by show (upR σ.1 _ _ _).length < _; rw [u7]; have := w4.1; rw [cap2_7 hp]; omega)]
    show (upR (upR σ.1 _ _) (p + 7) (upR σ.1 _ _ (p + 7) ++ [(((upR σ.1 _ _) (p + 9)).length : Int)]), _) = _
    rw [u7, u9]
  have f1 : ∀ k, k ≠ 19 → k ≠ 17 → (c_mbeginElement ν).1 k = ν.1 k := fun k hk h2 => by simp [c_mbeginElement, c_mbeginComponent, mar, mfl, upF, hk, h2]
  have f2 : ∀ k, k ≠ 18 → k ≠ 20 → (c_mbeginElement ν).2 k = ν.2 k := fun k h1 h2 => by simp [c_mbeginElement, c_mbeginComponent, mar, mfl, upF, h1, h2]
  have f19 : (c_mbeginElement ν).1 19 = ν.1 19 + 1 := by simp [c_mbeginElement, c_mbeginComponent, mar, mfl, upF]
  have f17 : (c_mbeginElement ν).1 17 = ν.1 17 + 1 := by simp [c_mbeginElement, c_mbeginComponent, mar, mfl, upF]
  have f18 : (c_mbeginElement ν).2 18 = ((ν.2 18).set (ν.1 17).toNat (ν.1 19)).set (ν.1 17 + 1).toNat (ν.1 19 + 1) := by simp [c_mbeginElement, c_mbeginComponent, mar, mfl, upF]
  have f20 : (c_mbeginElement ν).2 20 = ((ν.2 20).set (ν.1 19).toNat (ν.1 21)).set (ν.1 19 + 1).toNat (ν.1 21) := by simp [c_mbeginElement, c_mbeginComponent, mar, mfl, upF]
  have r0 : ∀ r, r ≠ p + 7 → r ≠ p + 5 → (c_addComponent (c_addElement (cI σ 2 1 j) p) p).1 r = σ.1 r := fun r hr h2 => by rw [e]; exact (upR_ne hr).trans (upR_ne h2)
  have r7 : (c_addComponent (c_addElement (cI σ 2 1 j) p) p).1 (p + 7) = σ.1 (p + 7) ++ [ν.1 21] := by rw [e, ← w5.1]; exact upR_same
  have r5 : (c_addComponent (c_addElement (cI σ 2 1 j) p) p).1 (p + 5) = σ.1 (p + 5) ++ [ν.1 19] := by rw [e, ← w4.1]; exact (upR_ne (by omega)).trans upR_same
  have i0 : ∀ k, k ≠ 1 → (c_addComponent (c_addElement (cI σ 2 1 j) p) p).2.1 2 k = σ.2.1 2 k := fun k hk => by rw [e]; show upI σ.2.1 2 1 j 2 k = _; simp [upI, hk]
  unfold SR SX MK SW LN SK
  rw [r0 3 (by omega) (by omega), r0 (p + 1) (by omega) (by omega), r0 (p + 3) (by omega) (by omega), r5, r7, r0 (p + 9) (by omega) (by omega), i0 2 (by omega), i0 3 (by omega), i0 4 (by omega), i0 5 (by omega), f1 1 (by omega) (by omega), f1 9 (by omega) (by omega), f1 10 (by omega) (by omega), f1 11 (by omega) (by omega), f1 12 (by omega) (by omega), f1 14 (by omega) (by omega), f17, f19, f1 21 (by omega) (by omega), f2 2 (by omega) (by omega), f2 15 (by omega) (by omega), f2 16 (by omega) (by omega), f18, f20, f2 22 (by omega) (by omega)]
  refine ⟨⟨x1, x2, x3, m1, m2, m3, m4, m5, m6⟩, ⟨?_, by omega, hl⟩, ⟨w1, w2, ?_, ?_, w5⟩, ⟨l1, l2, by rw [List.length_set, List.length_set]; exact l3, by rw [List.length_set, List.length_set]; exact l4, l5⟩, by omega, Or.inr ⟨hb, kk.1, by omega, by omega⟩, k2, k3, ⟨?_, mat_set (by rw [List.length_set]; omega), fun x g0 g1 => ?_⟩, ⟨?_, mat_set (by rw [List.length_set]; omega), fun x g0 g1 => ?_⟩⟩
  · rw [e]; show upI σ.2.1 2 1 j 2 1 = _; simp [upI]
  · have := rowIs_add (v := ν.1 19) w3 (by omega) (by omega)
    rw [Int.zero_add] at this
    exact rowIs_out this (by omega) (by omega) (by omega)
  · have := rowIs_add (v := ν.1 21) w4 (by omega) (by omega)
    rw [Int.zero_add] at this
    exact rowIs_out this (by omega) (by omega) (by omega)
  · rw [mat_set_ne (by omega)]
    by_cases ec : ν.1 17 = 0
    · have y : mat ((ν.2 18).set (ν.1 17).toNat (ν.1 19)) 0 = ν.1 19 := by rw [ec]; exact mat_set (by omega)
      rw [y]; rw [ec] at k4; omega
    · rw [mat_set_ne (by omega)]; exact k4.1
  · rw [mat_set_ne (by omega)]
    by_cases ex : x = ν.1 17
    · subst ex; rw [mat_set (by omega), mat_set (by rw [List.length_set]; omega)]; omega
    · have y := k4.2.2 x g0 (by omega)
      rw [mat_set_ne (by omega), mat_set_ne (show (ν.1 17 + 1).toNat ≠ (x + 1).toNat by omega)]
      by_cases ex2 : x + 1 = ν.1 17
      · rw [ex2, mat_set (by omega)]; rw [ex2, k4.2.1] at y; exact y
      · rw [mat_set_ne (by omega)]; exact y
  · rw [mat_set_ne (by omega)]
    by_cases ec : ν.1 19 = 0
    · have y : mat ((ν.2 20).set (ν.1 19).toNat (ν.1 21)) 0 = ν.1 21 := by rw [ec]; exact mat_set (by omega)
      rw [y]; rw [ec] at k5; omega
    · rw [mat_set_ne (by omega)]; exact k5.1
  · rw [mat_set_ne (by omega)]
    by_cases ex : x = ν.1 19
    · subst ex; rw [mat_set (by omega), mat_set (by rw [List.length_set]; omega)]; omega
    · have y := k5.2.2 x g0 (by omega)
      rw [mat_set_ne (by omega), mat_set_ne (show (ν.1 19 + 1).toNat ≠ (x + 1).toNat by omega)]
      by_cases ex2 : x + 1 = ν.1 19
      · rw [ex2, mat_set (by omega)]; rw [ex2, k5.2.1] at y; exact y
      · rw [mat_set_ne (by omega)]; exact y
