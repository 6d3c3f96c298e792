/-! tables -/
theorem isTag_eq {σ : cS} {μ : mS} {v : Int} (hv : rg v) : c_isTag σ v = c_misTag μ v := by
  unfold c_isTag c_misTag c_isCapital c_misLetter
  by_cases h : v < 0
  · rw [if_pos h, if_neg]
    rw [if_neg (by omega), if_pos (by omega)]; decide
  · rw [if_neg h]
    have e : v % 4294967296 = v := by omega
    rw [e]
theorem isTag_pos {σ : cS} {v : Int} (h : c_isTag σ v = true) : 4276545 ≤ v % 4294967296 := by
  unfold c_isTag c_isCapital at h
  by_cases h1 : v % 4294967296 / 65536 < 65
  · rw [if_pos h1] at h; cases h
  · rw [if_neg h1] at h
    by_cases h2 : 90 < v % 4294967296 / 65536
    · rw [if_pos h2] at h; cases h
    · rw [if_neg h2, if_pos rfl] at h
      by_cases h3 : v % 4294967296 / 256 % 256 < 65
      · rw [if_pos h3] at h; cases h
      · rw [if_neg h3] at h
        by_cases h4 : v % 256 < 65
        · by_cases h5 : 90 < v % 4294967296 / 256 % 256
          · rw [if_pos h5] at h; cases h
          · rw [if_neg h5, if_pos rfl, if_pos h4] at h; cases h
        · omega
theorem isEnv_eq {σ : cS} {μ : mS} {v : Int} : c_isEnvelopeTag σ v = c_misEnvelope μ v := rfl
theorem fo_none {σ : mS} {t k g : Int} (fu : Nat) (x : Int) (hm : 24 - x < (fu : Int)) (hi : mat (σ.2 3) t ≤ 24) (h : c_mfollowingL t k g fu x σ = -1) (hx : 0 ≤ x) : ∀ y, x ≤ y → y < mat (σ.2 3) t → mi σ t y ≠ g := by
  induction fu generalizing x with
  | zero => intro y h1 h2; omega
  | succ fu ih =>
    intro y h1 h2
    unfold c_mfollowingL at h
    rw [if_neg (by omega)] at h
    by_cases c : mat (σ.2 7) ((24 * t) + x) = g
    · rw [if_pos c] at h; omega
    · rw [if_neg c] at h
      by_cases e : y = x
      · subst e; exact c
      · exact ih (x + 1) (by omega) h (by omega) y (by omega) h2
theorem tab_first {μ : mS} {t g : Int} (hw : wfm μ) (hk : tabOK μ t) (h0 : 0 ≤ g) (h1 : g < mat (μ.2 3) t) (hg : mat (μ.2 4) (24 * t + g) = 0) : c_mfollowing μ t (-1) g = if g + 1 < mat (μ.2 3) t then g + 1 else -1 := by
  have h3 := hw.a3 t
  rcases fo_spec hw (t := t) (k := -1) (g := g) (by omega) with q | q
  · rw [q]
    split
    · rename_i c
      exact absurd (hk.2.2.1 g h0 c hg) (fo_none 25 _ (by omega) h3.2 q (by omega) (g + 1) (by omega) c)
    · rfl
  · have lt := (hk.1 _ (by omega) q.2.1).1
    rw [q.2.2] at lt
    rw [if_pos (by omega)]
    have e := hk.2.2.1 g h0 (by omega) hg
    -- the first member is the next item: nothing before it
    have key : ∀ (fu : Nat) (x : Int), x ≤ g + 1 → g + 1 - x < (fu : Int) → (∀ y, x ≤ y → y < g + 1 → mi μ t y ≠ g) → c_mfollowingL t (-1) g fu x μ = g + 1 := by
      intro fu
      induction fu with
      | zero => intro x a b; omega
      | succ fu ih =>
        intro x a b c
        unfold c_mfollowingL
        rw [if_neg (by omega)]
        by_cases ex : x = g + 1
        · subst ex; rw [if_pos e]
        · rw [if_neg (c x (by omega) (by omega))]
          exact ih (x + 1) (by omega) (by omega) (fun y d1 d2 => c y (by omega) d2)
    unfold c_mfollowing
    refine key 25 _ (by omega) (by omega) (fun y d1 d2 => ?_)
    have := (hk.1 y (by omega) (by omega)).1
    omega
theorem bare_eq {σ : cS} {μ : mS} {t : Int} (hw : wfm μ) (h : TabR σ μ t) : c_wantsTrigger σ (tb t) = c_misBare μ t := by
  obtain ⟨a1, a2, a3, a4, a5, a6, a7⟩ := h
  have h8 := hw.a8 t
  unfold c_wantsTrigger c_misBare
  rw [a5, a1.1]
  by_cases c : mat (μ.2 8) t = -1
  · rw [if_pos c, if_pos (show mat (μ.2 8) t < 0 by omega)]
  · have c9 : ¬ mat (μ.2 8) t < 0 := by omega
    rw [if_neg c, if_neg c9, tab_first hw a7 (by omega) a7.2.1.1 (a7.2.1.2 (by omega))]
    have := a7.2.1.1
    by_cases c2 : mat (μ.2 8) t = mat (μ.2 3) t - 1
    · rw [if_pos c2, if_neg (show ¬ mat (μ.2 8) t + 1 < mat (μ.2 3) t by omega), if_neg (show ¬ (0 : Int) ≤ -1 by omega)]
    · rw [if_neg c2, if_pos (show mat (μ.2 8) t + 1 < mat (μ.2 3) t by omega), if_pos (show 0 ≤ mat (μ.2 8) t + 1 by omega)]
theorem ch_pt {μ ν : mS} {t g : Int} (hw : wfm μ) (hp : ∀ x, 0 ≤ x → x < 24 → mi ν t x = mi μ t x) (hg : g < 24) : ch ν t g = ch μ t g := by
  unfold ch
  by_cases c0 : g < 0
  · rw [if_pos c0, if_pos c0]
  rw [if_neg c0, if_neg c0, hp g (by omega) hg]
  by_cases c1 : mi μ t g < 0
  · rw [if_pos c1, if_pos c1]
  have b1 : mi μ t g ≤ 23 := (hw.a7 _).2
  rw [if_neg c1, if_neg c1, hp _ (by omega) (by omega)]
  by_cases c2 : mi μ t (mi μ t g) < 0
  · rw [if_pos c2, if_pos c2]
  have b2 : mi μ t (mi μ t g) ≤ 23 := (hw.a7 _).2
  rw [if_neg c2, if_neg c2, hp _ (by omega) (by omega)]
/-- the same table, item for item -/
theorem TabR_pt {σ σ' : cS} {μ ν : mS} {t : Int} (hw : wfm μ) (hr : ∀ r, tb t < r → r < tb t + 9 → σ'.1 r = σ.1 r) (h4 : σ'.2.1 (tb t) 4 = σ.2.1 (tb t) 4) (h5 : σ'.2.1 (tb t) 5 = σ.2.1 (tb t) 5) (e3 : mat (ν.2 3) t = mat (μ.2 3) t) (e8 : mat (ν.2 8) t = mat (μ.2 8) t) (hp : ∀ k, 4 ≤ k → k ≤ 7 → ∀ x, 0 ≤ x → x < 24 → mat (ν.2 k) (24 * t + x) = mat (μ.2 k) (24 * t + x)) (h : TabR σ μ t) : TabR σ' ν t := by
  obtain ⟨a1, a2, a3, a4, a5, a6, b1, b2, b3, b4, b5⟩ := h
  have h3 := hw.a3 t
  have h8 := hw.a8 t
  have hi : ∀ x, 0 ≤ x → x < 24 → mi ν t x = mi μ t x := hp 7 (by omega) (by omega)
  have row : ∀ {k : Nat} {row : List Int}, 4 ≤ k → k ≤ 7 → rowIs row (μ.2 k) (24 * t) (mat (μ.2 3) t) → rowIs row (ν.2 k) (24 * t) (mat (ν.2 3) t) := fun {k row} q1 q2 q => by
    rw [e3]; exact ⟨q.1, fun i g0 g1 => by rw [hp k q1 q2 i g0 (by omega)]; exact q.2 i g0 g1⟩
  unfold TabR
  rw [hr _ (by omega) (by omega), hr _ (by omega) (by omega), hr _ (by omega) (by omega), hr _ (by omega) (by omega), h4, h5, e8, ch_pt hw hi (by omega)]
  refine ⟨row (by omega) (by omega) a1, row (by omega) (by omega) a2, row (by omega) (by omega) a3, row (by omega) (by omega) a4, a5, a6, ?_⟩
  unfold tabOK
  rw [e3, e8]
  refine ⟨fun x g0 g1 => ?_, ⟨b2.1, fun q => ?_⟩, fun g g0 g1 g2 => ?_, fun q q2 => ?_, fun a g0 g1 g2 => ?_⟩
  · rw [hi x g0 (by omega)]
    refine ⟨(b1 x g0 g1).1, fun q => ?_⟩
    have := (b1 x g0 g1).1
    rw [hp 4 (by omega) (by omega) _ q (by omega)]; exact (b1 x g0 g1).2 q
  · rw [hp 4 (by omega) (by omega) _ q (by omega)]; exact b2.2 q
  · rw [hi _ (by omega) (by omega)]
    rw [hp 4 (by omega) (by omega) g g0 (by omega)] at g2
    exact b3 g g0 g1 g2
  · rw [hp 4 (by omega) (by omega) _ (by omega) (by omega)] at q2
    exact b4 q q2
  · rw [e3] at g1
    rw [hp 4 (by omega) (by omega) a g0 (by omega)] at g2
    rw [hi a g0 (by omega)]
    by_cases c1 : mi μ t a < 0
    · exact Or.inl c1
    · have x1 : mi μ t a ≤ 23 := (hw.a7 _).2
      rw [hi _ (by omega) (by omega)]
      by_cases c2 : mi μ t (mi μ t a) < 0
      · exact Or.inr (Or.inl c2)
      · have x2 : mi μ t (mi μ t a) ≤ 23 := (hw.a7 _).2
        rw [hi _ (by omega) (by omega)]
        exact b5 a g0 g1 g2
/-- a change of one table -/
theorem R_tab {σ σ' : cS} {μ ν : mS} {t : Int} (h : R σ μ) (h0 : 0 ≤ t) (h1 : t ≤ 3) (hw : wf σ') (hm : wfm ν) (hr : ∀ r, (r ≤ tb t ∨ tb t + 9 ≤ r) → σ'.1 r = σ.1 r) (hi : ∀ p k, p ≠ tb t → σ'.2.1 p k = σ.2.1 p k) (hk : σ'.2.2 = σ.2.2) (hf : ∀ k, 1 ≤ k → ν.1 k = μ.1 k) (ha : ∀ k, (k < 3 ∨ 8 < k) → ν.2 k = μ.2 k)
    (hp : ∀ k, 4 ≤ k → k ≤ 7 → ∀ x, (x < 24 * t ∨ 24 * t + 24 ≤ x) → 0 ≤ x → mat (ν.2 k) x = mat (μ.2 k) x) (h3 : ∀ u, 0 ≤ u → u ≤ 3 → u ≠ t → mat (ν.2 3) u = mat (μ.2 3) u ∧ mat (ν.2 8) u = mat (μ.2 8) u) (ht : TabR σ' ν t) : R σ' ν := by
  obtain ⟨w1, w2, hrow, htx, a3, a4, a5, a6⟩ := h
  have tt : 72 ≤ tb t := by unfold tb; omega
  refine ⟨hw, hm, ?_, ?_, fun u u0 u1 => ?_, ?_, ?_, ?_⟩
  · rw [hr 3 (by omega), ha 2 (by omega), hf 1 (by omega)]; exact hrow
  · rw [ha 2 (by omega), hf 1 (by omega)]; exact htx
  · by_cases e : u = t
    · subst e; exact ht
    · have tu : tb u < tb t → tb u + 9 ≤ tb t := by unfold tb; omega
      have tu2 : tb u ≠ tb t := by unfold tb; omega
      have tu3 : tb t < tb u → tb t + 9 ≤ tb u := by unfold tb; omega
      exact TabR_pt w2 (fun r b1 b2 => hr r (by omega)) (hi _ _ tu2) (hi _ _ tu2) (h3 u u0 u1 e).1 (h3 u u0 u1 e).2 (fun k q1 q2 x x0 x1 => hp k q1 q2 _ (by omega) (by omega)) (a3 u u0 u1)
  · rw [hi 1 6 (by omega), hf 23 (by omega)]; exact a4
  · rw [hi 1 7 (by omega), hf 13 (by omega)]; exact a5
  · rw [hf 23 (by omega)]
    rcases a6 with q | q
    · exact Or.inl q
    · have kk := w1.2.2.2
      exact Or.inr (LoadR_congr (σ := σ) hk (fun r b1 b2 => hr r (by omega)) kk (hi _ _ (by omega)) (fun k b1 b2 => hf k (by omega)) (fun k b1 b2 => ha k (by omega)) q)
theorem tadd_eq {σ : cS} {b : Nat} {g u m : Int} (hb : kd b = 4) (hu : 0 ≤ u ∧ u ≤ 1) (hl : ∀ r, r = b + 1 ∨ r = b + 3 ∨ r = b + 5 ∨ r = b + 7 → (σ.1 r).length < 24) :
    c_tadd σ b g u m = ((((σ.1 (b + 1)).length : Int) + 1), (upR (upR (upR (upR σ.1 (b + 1) (σ.1 (b + 1) ++ [g])) (b + 3) (σ.1 (b + 3) ++ [u])) (b + 5) (σ.1 (b + 5) ++ [m])) (b + 7) (σ.1 (b + 7) ++ [σ.2.1 b 4]), σ.2)) := by
  have k1 := hl _ (Or.inl rfl)
  have k3 := hl _ (Or.inr (Or.inl rfl))
  have k5 := hl _ (Or.inr (Or.inr (Or.inl rfl)))
  have k7 := hl _ (Or.inr (Or.inr (Or.inr rfl)))
  have hu2 : u = 0 ∨ u = 1 := by omega
  unfold c_tadd
  rcases hu2 with e | e <;> subst e <;> simp [cadd, upR, cap4_1 hb, cap4_3 hb, cap4_5 hb, cap4_7 hb, k1, k3, k5, k7]
/-- what an added item does to the model -/
theorem madd_2 {μ : mS} {t v b c : Int} : (c_madd μ t v b c).2 = (μ.1, upF (upF (upF (upF (upF μ.2 4 ((μ.2 4).set (24 * t + mat (μ.2 3) t).toNat v)) 5 ((μ.2 5).set (24 * t + mat (μ.2 3) t).toNat b)) 6 ((μ.2 6).set (24 * t + mat (μ.2 3) t).toNat c)) 7 ((μ.2 7).set (24 * t + mat (μ.2 3) t).toNat (mat (μ.2 8) t))) 3 ((μ.2 3).set t.toNat (mat (μ.2 3) t + 1))) := rfl
theorem madd_1 {μ : mS} {t v b c : Int} (hw : wfm μ) (h0 : 0 ≤ t) (h1 : t ≤ 3) : (c_madd μ t v b c).1 = mat (μ.2 3) t + 1 := by
  show mat ((μ.2 3).set t.toNat (mat (μ.2 3) t + 1)) t = _
  have := hw.ln (k := 3) (by decide)
  exact mat_set (by rw [this]; show t.toNat < 4; omega)
/-- a table with one item more -/
theorem add_tab {σ : cS} {μ : mS} {t v b c : Int} (hw : wfm μ) (h0 : 0 ≤ t) (h1 : t ≤ 3) (h : TabR σ μ t) (hl : mat (μ.2 3) t < 24) (hb : 0 ≤ b ∧ b ≤ 1) (o : Int) (ho : o = mat (μ.2 8) t ∧ v ≠ 0 ∨ o = mat (μ.2 3) t ∧ v = 0 ∧ ch μ t (mat (μ.2 8) t) ≤ 2) (ν : mS)
    (e3 : ν.2 3 = (μ.2 3).set t.toNat (mat (μ.2 3) t + 1)) (e4 : ν.2 4 = (μ.2 4).set (24 * t + mat (μ.2 3) t).toNat v) (e5 : ν.2 5 = (μ.2 5).set (24 * t + mat (μ.2 3) t).toNat b) (e6 : ν.2 6 = (μ.2 6).set (24 * t + mat (μ.2 3) t).toNat c) (e7 : ν.2 7 = (μ.2 7).set (24 * t + mat (μ.2 3) t).toNat (mat (μ.2 8) t)) (e8 : mat (ν.2 8) t = o)
    (σ' : cS) (s1 : σ'.1 (tb t + 1) = σ.1 (tb t + 1) ++ [v]) (s3 : σ'.1 (tb t + 3) = σ.1 (tb t + 3) ++ [b]) (s5 : σ'.1 (tb t + 5) = σ.1 (tb t + 5) ++ [c]) (s7 : σ'.1 (tb t + 7) = σ.1 (tb t + 7) ++ [mat (μ.2 8) t]) (s4 : σ'.2.1 (tb t) 4 = o) (s6 : σ'.2.1 (tb t) 5 = if v = 0 then ch μ t (mat (μ.2 8) t) + 1 else ch μ t (mat (μ.2 8) t)) : TabR σ' ν t := by
  obtain ⟨a1, a2, a3, a4, a5, a6, b1, b2, b3, b4, b5⟩ := h
  have h3 := hw.a3 t
  have h8 := hw.a8 t
  have l3 : (μ.2 3).length = 4 := hw.ln (k := 3) (by decide)
  have l4 : (μ.2 4).length = 96 := hw.ln (k := 4) (by decide)
  have l5 : (μ.2 5).length = 96 := hw.ln (k := 5) (by decide)
  have l6 : (μ.2 6).length = 96 := hw.ln (k := 6) (by decide)
  have l7 : (μ.2 7).length = 96 := hw.ln (k := 7) (by decide)
  have n3 : mat (ν.2 3) t = mat (μ.2 3) t + 1 := by rw [e3]; exact mat_set (by omega)
  have i1 : ∀ x, 0 ≤ x → x ≠ mat (μ.2 3) t → mi ν t x = mi μ t x := fun x g0 g1 => by unfold mi; rw [e7, mat_set_ne (by omega)]
  have i2 : mi ν t (mat (μ.2 3) t) = mat (μ.2 8) t := by unfold mi; rw [e7]; exact mat_set (by omega)
  have t1 : ∀ x, 0 ≤ x → x ≠ mat (μ.2 3) t → mat (ν.2 4) (24 * t + x) = mat (μ.2 4) (24 * t + x) := fun x g0 g1 => by rw [e4, mat_set_ne (by omega)]
  have t2 : mat (ν.2 4) (24 * t + mat (μ.2 3) t) = v := by rw [e4]; exact mat_set (by omega)
  -- chains below the new item are the old ones
  have below : ∀ x, x < mat (μ.2 3) t → ch ν t x = ch μ t x := fun x gx => by
    unfold ch
    by_cases c0 : x < 0
    · rw [if_pos c0, if_pos c0]
    rw [if_neg c0, if_neg c0, i1 x (by omega) (by omega)]
    by_cases c1 : mi μ t x < 0
    · rw [if_pos c1, if_pos c1]
    have y1 := (b1 x (by omega) gx).1
    rw [if_neg c1, if_neg c1, i1 _ (by omega) (by omega)]
    by_cases c2 : mi μ t (mi μ t x) < 0
    · rw [if_pos c2, if_pos c2]
    have y2 := (b1 (mi μ t x) (by omega) (by omega)).1
    rw [if_neg c2, if_neg c2, i1 _ (by omega) (by omega)]
  have chn : ch ν t (mat (μ.2 3) t) = if ch μ t (mat (μ.2 8) t) ≤ 3 then ch μ t (mat (μ.2 8) t) + 1 else 4 := by
    have e := below (mat (μ.2 8) t) b2.1
    unfold ch
    rw [if_neg (show ¬ mat (μ.2 3) t < 0 by omega), i2]
    by_cases c0 : mat (μ.2 8) t < 0
    · rw [if_pos c0, if_pos c0]; rfl
    rw [if_neg c0, if_neg c0, i1 _ (by omega) (by omega)]
    by_cases c1 : mi μ t (mat (μ.2 8) t) < 0
    · rw [if_pos c1, if_pos c1]; rfl
    have y1 := (b1 (mat (μ.2 8) t) (by omega) b2.1).1
    rw [if_neg c1, if_neg c1, i1 _ (by omega) (by omega)]
    by_cases c2 : mi μ t (mi μ t (mat (μ.2 8) t)) < 0
    · rw [if_pos c2, if_pos c2]; rfl
    rw [if_neg c2, if_neg c2]
    split <;> rfl
  have row : ∀ {k : Nat} {row : List Int} {x : Int}, (μ.2 k).length = 96 → ν.2 k = (μ.2 k).set (24 * t + mat (μ.2 3) t).toNat x → rowIs row (μ.2 k) (24 * t) (mat (μ.2 3) t) → rowIs (row ++ [x]) (ν.2 k) (24 * t) (mat (ν.2 3) t) := fun {k row x} q1 q2 q => by
    rw [n3, q2]; exact rowIs_add q (by omega) (by omega)
  unfold TabR
  rw [s1, s3, s5, s7, s4, s6, e8]
  refine ⟨row l4 e4 a1, row l5 e5 a2, row l6 e6 a3, row l7 e7 a4, rfl, ?_, ?_⟩
  · rcases ho with ⟨p1, p2⟩ | ⟨p1, p2, p3⟩
    · rw [if_neg p2, p1, below _ b2.1]
    · rw [if_pos p2, p1, chn, if_pos (by omega)]
  unfold tabOK
  rw [n3, e8]
  refine ⟨fun x g0 g1 => ?_, ⟨?_, fun q => ?_⟩, fun g g0 g1 g2 => ?_, fun q q2 => ?_, fun a g0 g1 g2 => ?_⟩
  · by_cases e : x = mat (μ.2 3) t
    · subst e; rw [i2]
      refine ⟨b2.1, fun q => ?_⟩
      rw [t1 _ q (by omega)]; exact b2.2 q
    · rw [i1 x g0 e]
      have y := b1 x g0 (by omega)
      refine ⟨y.1, fun q => ?_⟩
      rw [t1 _ q (by omega)]; exact y.2 q
  · rcases ho with ⟨p1, p2⟩ | ⟨p1, p2, p3⟩ <;> omega
  · rcases ho with ⟨p1, p2⟩ | ⟨p1, p2, p3⟩
    · rw [p1] at q ⊢; rw [t1 _ q (by omega)]; exact b2.2 q
    · rw [p1, t2]; exact p2
  · rw [t1 g g0 (by omega)] at g2
    by_cases e : g + 1 = mat (μ.2 3) t
    · rw [e, i2]
      have y := b4 (by omega) (by rw [show mat (μ.2 3) t - 1 = g by omega]; exact g2)
      omega
    · rw [i1 _ (by omega) e]; exact b3 g g0 (by omega) g2
  · rw [show mat (μ.2 3) t + 1 - 1 = mat (μ.2 3) t by omega, t2] at q2
    rcases ho with ⟨p1, p2⟩ | ⟨p1, p2, p3⟩
    · exact absurd q2 p2
    · omega
  · rw [n3] at g1
    by_cases e : a = mat (μ.2 3) t
    · subst e
      rw [t2] at g2
      rcases ho with ⟨p1, p2⟩ | ⟨p1, p2, p3⟩
      · exact absurd g2 p2
      · rw [i2]
        unfold ch at p3
        by_cases c0 : mat (μ.2 8) t < 0
        · exact Or.inl c0
        rw [if_neg c0] at p3
        rw [i1 _ (by omega) (by omega)]
        by_cases c1 : mi μ t (mat (μ.2 8) t) < 0
        · exact Or.inr (Or.inl c1)
        rw [if_neg c1] at p3
        have y1 := (b1 (mat (μ.2 8) t) (by omega) b2.1).1
        rw [i1 _ (by omega) (by omega)]
        by_cases c2 : mi μ t (mi μ t (mat (μ.2 8) t)) < 0
        · exact Or.inr (Or.inr c2)
        · rw [if_neg c2] at p3
          split at p3 <;> omega
    · rw [t1 a g0 e] at g2
      have y0 := b5 a g0 (by omega) g2
      have y1 := (b1 a g0 (by omega)).1
      rw [i1 a g0 e]
      by_cases c1 : mi μ t a < 0
      · exact Or.inl c1
      have y2 := (b1 (mi μ t a) (by omega) (by omega)).1
      rw [i1 _ (by omega) (by omega)]
      by_cases c2 : mi μ t (mi μ t a) < 0
      · exact Or.inr (Or.inl c2)
      rw [i1 _ (by omega) (by omega)]
      exact y0
