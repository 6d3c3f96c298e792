/-! components, and what is compared of them -/
def cOK (μ : mS) (c : Int) : Prop := c = -1 ∨ (0 ≤ c ∧ c < μ.1 29)
def chM (μ : mS) (c i : Int) : Int := mat (μ.2 31) (mat (μ.2 30) c + i)
def sameP (μ : mS) (a b : Int) : Prop := c_msizeOf μ a = c_msizeOf μ b ∧ ∀ i, 0 ≤ i → i < c_msizeOf μ a → chM μ a i = chM μ b i
theorem sameP.symm {μ : mS} {a b : Int} (h : sameP μ a b) : sameP μ b a := ⟨h.1.symm, fun i h0 h1 => (h.2 i h0 (by rw [h.1]; exact h1)).symm⟩
section JP
variable {σ : cS} {μ : mS} {e : Nat} {N : Int}
theorem J_comp (h : PartR σ μ e N) {s u : Int} (hs : 0 ≤ s) (hs2 : s < μ.1 24) (hu : 0 ≤ u) : c_componentAt σ (e + 1) s u 0 = c_mcomponent μ s u ∧ cOK μ (c_mcomponent μ s u) := by
  have k1 := h.2.2.2.2.2.e hs (by omega)
  have k2 := h.2.2.2.2.2.e (s := s + 1) (by omega) (by omega)
  have el := h.el hs hs2 hu
  unfold c_mcomponent
  by_cases c : u < mat (μ.2 26) (s + 1) - mat (μ.2 26) s
  · have co := h.co hs hs2 hu c (Int.le_refl 0)
    have st := h.2.2.2.2.2.2.2.2.2.1.2.2 (mat (μ.2 26) s + u) (by omega) (by omega)
    have k3 := h.2.2.2.2.2.c (s := mat (μ.2 26) s + u) (by omega) (by omega)
    have k4 := h.2.2.2.2.2.c (s := mat (μ.2 26) s + u + 1) (by omega) (by omega)
    rw [if_pos (by omega)] at co
    rw [if_neg (by omega), co, Int.add_zero]
    exact ⟨rfl, Or.inr ⟨by omega, by omega⟩⟩
  · rw [if_neg c] at el
    rw [if_pos (by omega)]
    unfold c_componentAt
    rw [el, if_pos rfl]
    exact ⟨rfl, Or.inl rfl⟩
theorem J_width (h : PartR σ μ e N) {c : Int} (hc : cOK μ c) : c_widthOf σ (e + 1) c = c_msizeOf μ c := by
  rcases hc with q | q
  · subst q; unfold c_widthOf c_msizeOf; rw [if_pos rfl, if_neg (by decide)]
  · rw [h.wd q.1 q.2]; unfold c_msizeOf; rw [if_pos q.1]
theorem size_r (h : PartR σ μ e N) {c : Int} (hc : cOK μ c) : 0 ≤ c_msizeOf μ c ∧ c_msizeOf μ c ≤ N ∧ N ≤ 400 := by
  have hp := h.2.2.2.2.2
  have h4 := hp.2.1
  have h0 := hp.1
  unfold c_msizeOf
  rcases hc with q | q
  · subst q; rw [if_neg (by decide)]; omega
  · rw [if_pos q.1]
    have := hp.h (s := c) q.1 (by omega)
    have := hp.h (s := c + 1) (by omega) (by omega)
    have := hp.2.2.2.2.2.2.2 c q.1 q.2
    omega
theorem J_char (h : PartR σ μ e N) {c i : Int} (hc : cOK μ c) (h0 : 0 ≤ i) (h1 : i < c_msizeOf μ c) : c_characterOf σ (e + 1) c i = chM μ c i := by
  rcases hc with q | q
  · subst q; unfold c_msizeOf at h1; rw [if_neg (by decide)] at h1; omega
  · rw [h.cr q.1 q.2]
    unfold c_msizeOf at h1
    rw [if_pos q.1] at h1
    rw [if_pos ⟨h0, h1⟩]; rfl
theorem J_rat (h : PartR σ μ e N) {c i : Int} (hc : cOK μ c) (h0 : 0 ≤ i) (h1 : i < c_msizeOf μ c) : rat (σ.1 (e + 1 + 9)) (rat (σ.1 (e + 1 + 7)) c + i) = chM μ c i := by
  rw [← J_char h hc h0 h1]
  unfold c_characterOf
  rw [if_neg (by omega), J_width h hc, if_neg (by omega)]
theorem msL_0 {a b n : Int} (fu : Nat) (i : Int) : c_msameL a b fu n 0 i μ = false := by
  cases fu with
  | zero => rfl
  | succ fu =>
    rw [c_msameL]
    by_cases c : n ≤ i
    · rw [if_pos c]; decide
    · rw [if_neg c, if_pos rfl]; decide
theorem msL_1 {a b n : Int} (fu : Nat) : ∀ i, i ≤ n → n - i < (fu : Int) → (c_msameL a b fu n 1 i μ = true ↔ ∀ j, i ≤ j → j < n → chM μ a j = chM μ b j) := by
  induction fu with
  | zero => intro i hi h; omega
  | succ fu ih =>
    intro i hi h
    rw [c_msameL]
    by_cases c : n ≤ i
    · rw [if_pos c]; exact ⟨fun _ j a b => by omega, fun _ => by decide⟩
    · rw [if_neg c, if_neg (by decide)]
      by_cases d : mat (μ.2 31) (mat (μ.2 30) a + i) = mat (μ.2 31) (mat (μ.2 30) b + i)
      · rw [if_pos d, ih (i + 1) (by omega) (by omega)]
        constructor
        · intro q j j1 j2
          by_cases ej : j = i
          · subst ej; exact d
          · exact q j (by omega) j2
        · intro q j j1 j2; exact q j (by omega) j2
      · rw [if_neg d, msL_0]
        constructor
        · intro q; cases q
        · intro q; exact absurd (q i (Int.le_refl _) (by omega)) d
theorem msame_iff {a b : Int} (hl : 0 ≤ c_msizeOf μ a ∧ c_msizeOf μ a ≤ 400) : c_msame μ a b = true ↔ sameP μ a b := by
  unfold c_msame sameP
  by_cases c : c_msizeOf μ a = c_msizeOf μ b
  · rw [if_pos c, msL_1 401 0 hl.1 (by omega)]
    exact ⟨fun q => ⟨c, q⟩, fun q => q.2⟩
  · rw [if_neg c, msL_0]
    exact ⟨fun q => (by cases q), fun q => absurd q.1 c⟩
theorem asL {p : Nat} {a b x f g : Int} (fu : Nat) : ∀ i, i ≤ x → x - i < (fu : Int) → (c_areSameL p a b fu x f g i σ = true ↔ ∀ j, i ≤ j → j < x → rat (σ.1 (p + 9)) (f + j) = rat (σ.1 (p + 9)) (g + j)) := by
  induction fu with
  | zero => intro i hi h; omega
  | succ fu ih =>
    intro i hi h
    rw [c_areSameL]
    by_cases c : x ≤ i
    · rw [if_pos c]; exact ⟨fun _ j a b => by omega, fun _ => rfl⟩
    · rw [if_neg c]
      by_cases d : rat (σ.1 (p + 9)) (f + i) = rat (σ.1 (p + 9)) (g + i)
      · rw [if_pos d, ih (i + 1) (by omega) (by omega)]
        constructor
        · intro q j j1 j2
          by_cases ej : j = i
          · subst ej; exact d
          · exact q j (by omega) j2
        · intro q j j1 j2; exact q j (by omega) j2
      · rw [if_neg d]
        constructor
        · intro q; cases q
        · intro q; exact absurd (q i (Int.le_refl _) (by omega)) d
theorem J_same (h : PartR σ μ e N) {a b : Int} (ha : cOK μ a) (hb : cOK μ b) : c_areSame σ (e + 1) a b = true ↔ sameP μ a b := by
  have r := size_r h ha
  unfold c_areSame
  rw [J_width h ha, J_width h hb]
  by_cases c : c_msizeOf μ a = c_msizeOf μ b
  · rw [if_pos c, asL 400000001 0 r.1 (by omega)]
    constructor
    · intro q
      refine ⟨c, fun i i0 i1 => ?_⟩
      rw [← J_rat h ha i0 i1, ← J_rat h hb i0 (by omega)]; exact q i i0 i1
    · intro q j j0 j1
      rw [J_rat h ha j0 j1, J_rat h hb j0 (by omega)]; exact q.2 j j0 j1
  · rw [if_neg c]
    exact ⟨fun q => (by cases q), fun q => absurd q.1 c⟩
theorem mnL_0 {c v n f : Int} (fu : Nat) : ∀ (r i : Int), c_misNumberL c v fu n f r 0 i μ = false := by
  induction fu with
  | zero => intro r i; rfl
  | succ fu ih =>
    intro r i
    rw [c_misNumberL]
    by_cases q : n ≤ i
    · rw [if_pos q, if_pos rfl]
    · rw [if_neg q, if_pos rfl]; exact ih _ _
theorem nL_eq (h : PartR σ μ e N) {c v : Int} (hc : cOK μ c) (fu : Nat) : ∀ (r i : Int), 0 ≤ i → c_isNumberL (e + 1) c v fu (c_msizeOf μ c) (rat (σ.1 (e + 1 + 7)) c) r i σ = c_misNumberL c v fu (c_msizeOf μ c) (mat (μ.2 30) c) r 1 i μ := by
  induction fu with
  | zero => intro r i _; rfl
  | succ fu ih =>
    intro r i hi
    rw [c_isNumberL, c_misNumberL]
    by_cases q : c_msizeOf μ c ≤ i
    · rw [if_pos q, if_pos q, if_neg (show ¬ (1 : Int) = 0 by decide)]
    · rw [if_neg q, if_neg q, if_neg (show ¬ (1 : Int) = 0 by decide), J_rat h hc hi (by omega)]
      have e1 : chM μ c i = mat (μ.2 31) (mat (μ.2 30) c + i) := rfl
      rw [e1]
      unfold c_isDigit
      by_cases d1 : mat (μ.2 31) (mat (μ.2 30) c + i) < 48
      · rw [if_pos d1, if_pos d1, if_neg (show ¬ false = true by decide), mnL_0]
      · rw [if_neg d1, if_neg d1]
        by_cases d2 : 57 < mat (μ.2 31) (mat (μ.2 30) c + i)
        · rw [if_pos d2, if_pos d2, if_neg (show ¬ false = true by decide), mnL_0]
        · rw [if_neg d2, if_neg d2, if_pos rfl, ih _ _ (by omega)]
          have e2 : 10 * r + (mat (μ.2 31) (mat (μ.2 30) c + i) - 48) = 10 * r + mat (μ.2 31) (mat (μ.2 30) c + i) - 48 := by omega
          rw [e2]
theorem J_num (h : PartR σ μ e N) {c v : Int} (hc : cOK μ c) : c_isNumber σ (e + 1) c v = c_misNumber μ c v := by
  unfold c_isNumber c_misNumber
  rw [J_width h hc]
  by_cases a1 : c_msizeOf μ c < 1
  · rw [if_pos a1, if_pos a1]
  rw [if_neg a1, if_neg a1]
  by_cases a2 : 3 < c_msizeOf μ c
  · rw [if_pos a2, if_neg (by omega)]
  rw [if_neg a2, if_pos (show c_msizeOf μ c ≤ 3 by omega)]
  by_cases a3 : c_msizeOf μ c ≤ 1
  · rw [if_pos a3, if_pos (show c_msizeOf μ c = 1 by omega)]; exact nL_eq h hc 4 0 0 (by omega)
  have e1 : rat (σ.1 (e + 1 + 9)) (rat (σ.1 (e + 1 + 7)) c) = mat (μ.2 31) (mat (μ.2 30) c) := by
    have q := J_rat h hc (Int.le_refl 0) (by omega)
    unfold chM at q; rw [Int.add_zero, Int.add_zero] at q; exact q
  rw [if_neg a3, if_neg (show ¬ c_msizeOf μ c = 1 by omega), e1]
  by_cases a4 : mat (μ.2 31) (mat (μ.2 30) c) = 48
  · rw [if_pos a4, if_pos a4, mnL_0]
  · rw [if_neg a4, if_neg a4]; exact nL_eq h hc 4 0 0 (by omega)
theorem J_ref (h : PartR σ μ e N) {a u : Int} (ha : cOK μ a) (hu : 0 ≤ u) (hu2 : u < μ.1 24) : c_isRightReference σ e a u = true ↔ 0 < c_msizeOf μ a ∧ sameP μ a (c_mcomponent μ u 1) := by
  obtain ⟨b1, b2⟩ := J_comp h hu hu2 (show (0 : Int) ≤ 1 by decide)
  unfold c_isRightReference
  rw [J_width h ha, b1]
  have js := J_same h ha b2
  by_cases c : c_msizeOf μ a ≤ 0
  · rw [if_pos c]; exact ⟨fun q => (by cases q), fun q => by omega⟩
  · rw [if_neg c]
    by_cases d : c_areSame σ (e + 1) a (c_mcomponent μ u 1) = true
    · rw [if_pos d]; exact ⟨fun _ => ⟨by omega, js.mp d⟩, fun _ => rfl⟩
    · rw [if_neg d]; exact ⟨fun q => (by cases q), fun q => absurd (js.mpr q.2) d⟩
theorem J_cnt (h : PartR σ μ e N) {u v : Int} (hu : 0 ≤ u) (hu2 : u < μ.1 24) : c_isRightCount σ e u v = c_misNumber μ (c_mcomponent μ u 0) v := by
  obtain ⟨b1, b2⟩ := J_comp h hu hu2 (Int.le_refl 0)
  unfold c_isRightCount
  rw [b1]; exact J_num h b2
theorem mcheck_eq (h : PartR σ μ e N) {s se u v : Int} (hs : 0 ≤ s) (hs2 : s < μ.1 24) (hse : 0 ≤ se) (hu : 0 ≤ u) (hu2 : u < μ.1 24) : c_mcheck μ s se u v = (if c_isRightReference σ e (c_mcomponent μ s se) u = true then 0 else 1) + (if c_isRightCount σ e u v = true then 0 else 2) := by
  obtain ⟨b1, b2⟩ := J_comp h hu hu2 (show (0 : Int) ≤ 1 by decide)
  obtain ⟨d1, d2⟩ := J_comp h hs hs2 hse
  have jr := J_ref h d2 hu hu2
  have r := size_r h b2
  have ms := msame_iff (μ := μ) (a := c_mcomponent μ u 1) (b := c_mcomponent μ s se) (by omega)
  unfold c_mcheck
  rw [J_cnt h hu hu2]
  by_cases c : c_msizeOf μ (c_mcomponent μ u 1) ≤ 0
  · have nr : ¬ c_isRightReference σ e (c_mcomponent μ s se) u = true := fun q => by
      have := jr.mp q
      have := this.2.1
      omega
    rw [if_pos c, if_neg nr]
    by_cases q : c_misNumber μ (c_mcomponent μ u 0) v = true
    · rw [if_pos q, if_pos q]
    · rw [if_neg q, if_neg q]
  · rw [if_neg c]
    by_cases d : c_msame μ (c_mcomponent μ u 1) (c_mcomponent μ s se) = true
    · have sp := ms.mp d
      have yr : c_isRightReference σ e (c_mcomponent μ s se) u = true := jr.mpr ⟨by have := sp.1; omega, sp.symm⟩
      rw [if_pos d, if_pos yr]
      by_cases q : c_misNumber μ (c_mcomponent μ u 0) v = true
      · rw [if_pos q, if_pos q]
      · rw [if_neg q, if_neg q]
    · have nr : ¬ c_isRightReference σ e (c_mcomponent μ s se) u = true := fun q => d (ms.mpr (jr.mp q).2.symm)
      rw [if_neg d, if_neg nr]
      by_cases q : c_misNumber μ (c_mcomponent μ u 0) v = true
      · rw [if_pos q, if_pos q]
      · rw [if_neg q, if_neg q]
theorem J_code (h : PartR σ μ e N) {s se u v : Int} (hs : 0 ≤ s) (hs2 : s < μ.1 24) (hse : 0 ≤ se) (hu : 0 ≤ u) (hu2 : u < μ.1 24) : c_codeOfEnd σ e (c_componentAt σ (e + 1) s se 0) u v = c_mcheck μ s se u v := by
  obtain ⟨d1, d2⟩ := J_comp h hs hs2 hse
  rw [mcheck_eq h hs hs2 hse hu hu2, d1]
  unfold c_codeOfEnd
  by_cases c : c_isRightReference σ e (c_mcomponent μ s se) u = true
  · rw [if_pos c, if_pos c]
    by_cases q : c_isRightCount σ e u v = true
    · rw [if_pos q, if_pos q]
    · rw [if_neg q, if_neg q]
  · rw [if_neg c, if_neg c]
    by_cases q : c_isRightCount σ e u v = true
    · rw [if_pos q, if_pos q]
    · rw [if_neg q, if_neg q]
end JP
