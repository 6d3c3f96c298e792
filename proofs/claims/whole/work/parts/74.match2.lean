/-! matching: no item is passed twice -/
def cntp (p : Nat → Bool) : Nat → Nat
  | 0 => 0
  | n + 1 => cntp p n + (if p n = true then 1 else 0)
theorem cntp_le (p : Nat → Bool) : ∀ n, cntp p n ≤ n
  | 0 => Nat.le_refl _
  | n + 1 => by have := cntp_le p n; rw [cntp]; split <;> omega
theorem cntp_mono {p q : Nat → Bool} : ∀ n, (∀ i, i < n → q i = true → p i = true) → cntp q n ≤ cntp p n
  | 0, _ => Nat.le_refl _
  | n + 1, h => by
    have a := cntp_mono n (fun i hi => h i (by omega))
    rw [cntp, cntp]
    by_cases c : q n = true
    · rw [if_pos c, if_pos (h n (by omega) c)]; omega
    · rw [if_neg c]; split <;> omega
theorem cntp_lt {p q : Nat → Bool} {a : Nat} (ha : p a = true) (hb : q a = false) : ∀ n, a < n → (∀ i, i < n → q i = true → p i = true) → cntp q n < cntp p n
  | 0, h, _ => absurd h (by omega)
  | n + 1, h, hm => by
    rw [cntp, cntp]
    by_cases e : a = n
    · subst e
      have m := cntp_mono (p := p) (q := q) a (fun i hi => hm i (by omega))
      rw [if_neg (by rw [hb]; decide), if_pos ha]; omega
    · have m := cntp_lt ha hb n (by omega) (fun i hi => hm i (by omega))
      by_cases c : q n = true
      · rw [if_pos c, if_pos (hm n (by omega) c)]; omega
      · rw [if_neg c]; split <;> omega
/-- an item that may still be passed -/
abbrev fut (μ : mS) (t : Int) (v : Int) : Prop := (0 ≤ μ.1 43 ∧ mi μ t v = mtop μ (μ.1 45) ∧ μ.1 43 ≤ v) ∨ (0 < μ.1 45 ∧ mi μ t v = mtop μ 0 ∧ mat (μ.2 46) 0 ≤ v) ∨ (1 < μ.1 45 ∧ mi μ t v = mtop μ 1 ∧ mat (μ.2 46) 1 ≤ v) ∨ (2 < μ.1 45 ∧ mi μ t v = mtop μ 2 ∧ mat (μ.2 46) 2 ≤ v)
def left (μ : mS) (t : Int) : Nat := cntp (fun i => decide (fut μ t (i : Int))) (mat (μ.2 3) t).toNat
theorem left_le {μ : mS} {t : Int} (hw : wfm μ) : left μ t ≤ 24 := by
  have := hw.a3 t
  have := cntp_le (fun i => decide (fut μ t (i : Int))) (mat (μ.2 3) t).toNat
  unfold left; omega
theorem left_go {σ : cS} {μ : mS} {t : Int} (h : MR σ μ t) (h0 : 0 ≤ μ.1 43) : left (c_mgoOn μ t) t < left μ t := by
  obtain ⟨tr, hw, q, hl, hi, hg, h1, h2⟩ := h
  have ok := tr.2.2.2.2.2.2
  have e2 : (c_mgoOn μ t).2 = μ.2 := mgo_2
  have e45 : (c_mgoOn μ t).1 45 = μ.1 45 := mgo_45
  have tt : ∀ j, mtop (c_mgoOn μ t) j = mtop μ j := fun j => by unfold mtop; rw [e2]
  have hmt : mtop μ (μ.1 45) = if μ.1 45 = 0 then -1 else mat (μ.2 46) (μ.1 45 - 1) := rfl
  have e43 : (c_mgoOn μ t).1 43 = c_mfollowing μ t (μ.1 43) (mtop μ (μ.1 45)) := by
    unfold c_mgoOn
    rw [hmt]
    by_cases c : μ.1 45 = 0
    · rw [if_pos c, if_pos c]; rfl
    · rw [if_neg c, if_neg c]; rfl
  have fs := fo_spec hw (t := t) (k := μ.1 43) (g := mtop μ (μ.1 45)) (by have := hw.f43; omega)
  have qs := q.2.2.1 h0
  have m3 := q.1.1
  have ne : ∀ j, 0 ≤ j → j < μ.1 45 → mtop μ j < mtop μ (μ.1 45) := fun j a b => mtop_ne q ok a b (Int.le_refl _)
  have sub : ∀ v : Int, fut (c_mgoOn μ t) t v → fut μ t v ∧ v ≠ μ.1 43 := fun v z => by
    unfold fut mi at z
    rw [e2, e45, tt, tt, tt, tt, e43] at z
    rcases z with z | z | z | z
    · rcases fs with w | w
      · omega
      · exact ⟨Or.inl ⟨h0, z.2.1, by omega⟩, by omega⟩
    · refine ⟨Or.inr (Or.inl z), fun ev => ?_⟩
      have := ne 0 (by omega) z.1
      have z2 : mi μ t v = mtop μ 0 := z.2.1
      rw [ev, qs.2] at z2; omega
    · refine ⟨Or.inr (Or.inr (Or.inl z)), fun ev => ?_⟩
      have := ne 1 (by omega) z.1
      have z2 : mi μ t v = mtop μ 1 := z.2.1
      rw [ev, qs.2] at z2; omega
    · refine ⟨Or.inr (Or.inr (Or.inr z)), fun ev => ?_⟩
      have := ne 2 (by omega) z.1
      have z2 : mi μ t v = mtop μ 2 := z.2.1
      rw [ev, qs.2] at z2; omega
  unfold left
  have e3 : mat ((c_mgoOn μ t).2 3) t = mat (μ.2 3) t := by rw [e2]
  rw [e3]
  refine cntp_lt (a := (μ.1 43).toNat) ?_ ?_ _ (by omega) (fun i hi z => ?_)
  · rw [decide_eq_true_eq, show (((μ.1 43).toNat : Nat) : Int) = μ.1 43 by omega]; exact Or.inl ⟨h0, qs.2, Int.le_refl _⟩
  · rw [decide_eq_false_iff_not, show (((μ.1 43).toNat : Nat) : Int) = μ.1 43 by omega]; exact fun z => (sub _ z).2 rfl
  · rw [decide_eq_true_eq] at z ⊢; exact (sub _ z).1
theorem left_pop {μ : mS} {t : Int} (h3 : μ.1 45 ≤ 3) (h0 : 0 < μ.1 45) : left (popM μ) t ≤ left μ t := by
  unfold left
  refine cntp_mono _ (fun i hi z => ?_)
  rw [decide_eq_true_eq] at z ⊢
  have e45 : (popM μ).1 45 = μ.1 45 - 1 := rfl
  have e43 : (popM μ).1 43 = mat (μ.2 46) (μ.1 45 - 1) := rfl
  have tt : ∀ j, mtop (popM μ) j = mtop μ j := fun j => rfl
  unfold fut at z
  rw [e45, e43, tt, tt, tt, tt] at z
  rcases z with z | z | z | z
  · have : μ.1 45 = 1 ∨ μ.1 45 = 2 ∨ μ.1 45 = 3 := by omega
    rcases this with e | e | e <;> rw [e] at z
    · exact Or.inr (Or.inl ⟨by omega, z.2.1, z.2.2⟩)
    · exact Or.inr (Or.inr (Or.inl ⟨by omega, z.2.1, z.2.2⟩))
    · exact Or.inr (Or.inr (Or.inr ⟨by omega, z.2.1, z.2.2⟩))
  · exact Or.inr (Or.inl ⟨by omega, z.2⟩)
  · exact Or.inr (Or.inr (Or.inl ⟨by omega, z.2⟩))
  · exact Or.inr (Or.inr (Or.inr ⟨by omega, z.2⟩))
