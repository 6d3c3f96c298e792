/-! the print -/
section KE
variable {σ : cS} {μ μb : mS} {e : Nat} {N : Int}
theorem kept_c (h28 : μ.2 28 = μb.2 28) (h30 : μ.2 30 = μb.2 30) {x : Int} : c_mkept μ x = c_mkept μb x := by
  have hl : ∀ (fu : Nat) (n : Int), c_mkeptL x fu n μ = c_mkeptL x fu n μb := by
    intro fu
    induction fu with
    | zero => intro n; rfl
    | succ fu ih =>
      intro n
      have es : ∀ c, c_msizeOf μ c = c_msizeOf μb c := fun c => by unfold c_msizeOf; rw [h30]
      rw [c_mkeptL, c_mkeptL, es, h28, ih]
  unfold c_mkept
  rw [hl, h28]
theorem wpE_c (h26 : μ.2 26 = μb.2 26) (h28 : μ.2 28 = μb.2 28) (h30 : μ.2 30 = μb.2 30) {s : Int} (fu : Nat) : ∀ u, c_mwpE s fu u μ = c_mwpE s fu u μb := by
  induction fu with
  | zero => intro u; rfl
  | succ fu ih => intro u; rw [c_mwpE, c_mwpE, h26, kept_c h28 h30, ih]
theorem fe_L (h : PartR σ μ e N) {x : Int} (hx : 0 ≤ x) (hx2 : x < μ.1 27) (fu2 : Nat) : ∀ (n : Int) (fu : Nat), 0 ≤ n → n ≤ mat (μ.2 28) (x + 1) - mat (μ.2 28) x → n < (fu : Int) → n < (fu2 : Int) → c_filledEndL (e + 1) x fu (mat (μ.2 28) x) (mat (μ.2 28) x + n) σ = mat (μ.2 28) x + c_mkeptL x fu2 n μ ∧ 0 ≤ c_mkeptL x fu2 n μ ∧ c_mkeptL x fu2 n μ ≤ n := by
  have k1 := h.2.2.2.2.2.c (s := x) hx (by omega)
  have k2 := h.2.2.2.2.2.c (s := x + 1) (by omega) (by omega)
  induction fu2 with
  | zero => intro n fu _ _ _ h; omega
  | succ fu2 ih =>
    intro n fu h0 h1 h2 h3
    cases fu with
    | zero => omega
    | succ fu =>
      rw [c_filledEndL, c_mkeptL]
      by_cases c : n ≤ 0
      · rw [if_pos c, if_pos (by omega)]; omega
      · rw [if_neg c, if_neg (by omega)]
        have r1 : rat (σ.1 (e + 1 + 7)) (mat (μ.2 28) x + n) = mat (μ.2 30) (mat (μ.2 28) x + n) := h.2.2.2.1.in (by omega) (by omega)
        have r2 : rat (σ.1 (e + 1 + 7)) (mat (μ.2 28) x + n - 1) = mat (μ.2 30) (mat (μ.2 28) x + n - 1) := h.2.2.2.1.in (by omega) (by omega)
        have mo := h.2.2.2.2.2.2.2.2.2.2.2.2 (mat (μ.2 28) x + n - 1) (by omega) (by omega)
        have sz : c_msizeOf μ (mat (μ.2 28) x + n - 1) = mat (μ.2 30) (mat (μ.2 28) x + n) - mat (μ.2 30) (mat (μ.2 28) x + n - 1) := by
          unfold c_msizeOf
          rw [if_pos (by omega), show mat (μ.2 28) x + n - 1 + 1 = mat (μ.2 28) x + n by omega]
        rw [show mat (μ.2 28) x + n - 1 + 1 = mat (μ.2 28) x + n by omega] at mo
        rw [r1, r2, sz]
        by_cases d : mat (μ.2 30) (mat (μ.2 28) x + n) ≤ mat (μ.2 30) (mat (μ.2 28) x + n - 1)
        · rw [if_pos d, if_pos (by omega)]
          have res := ih (n + (-1)) fu (by omega) (by omega) (by omega) (by omega)
          rw [show mat (μ.2 28) x + n + (-1) = mat (μ.2 28) x + (n + (-1)) by omega]
          exact ⟨res.1, res.2.1, by omega⟩
        · rw [if_neg d, if_neg (by omega)]; exact ⟨rfl, h0, Int.le_refl _⟩
theorem fe_eq (h : PartR σ μ e N) (h29 : μ.1 29 ≤ 121) {x : Int} (hx : 0 ≤ x) (hx2 : x < μ.1 27) : c_filledEnd σ (e + 1) x = mat (μ.2 28) x + c_mkept μ x ∧ 0 ≤ c_mkept μ x ∧ c_mkept μ x ≤ mat (μ.2 28) (x + 1) - mat (μ.2 28) x := by
  have k1 := h.2.2.2.2.2.c (s := x) hx (by omega)
  have k2 := h.2.2.2.2.2.c (s := x + 1) (by omega) (by omega)
  have st := h.2.2.2.2.2.2.2.2.2.1.2.2 x hx hx2
  unfold c_filledEnd c_mkept
  have r1 : rat (σ.1 (e + 1 + 5)) x = mat (μ.2 28) x := h.2.2.1.in hx (by omega)
  have r2 : rat (σ.1 (e + 1 + 5)) (x + 1) = mat (μ.2 28) (x + 1) := h.2.2.1.in (by omega) (by omega)
  rw [r1, r2]
  have res := fe_L h hx hx2 244 (mat (μ.2 28) (x + 1) - mat (μ.2 28) x) 100003001 (by omega) (Int.le_refl _) (by omega) (by omega)
  rw [show mat (μ.2 28) x + (mat (μ.2 28) (x + 1) - mat (μ.2 28) x) = mat (μ.2 28) (x + 1) by omega] at res
  exact res
theorem ee_L (h : PartR σ μ e N) (h29 : μ.1 29 ≤ 121) {s : Int} (hs : 0 ≤ s) (hs2 : s < μ.1 24) (fu2 : Nat) : ∀ (u : Int) (fu : Nat), mat (μ.2 26) s ≤ u → u ≤ mat (μ.2 26) (s + 1) → u - mat (μ.2 26) s < (fu : Int) → u - mat (μ.2 26) s < (fu2 : Int) → c_filledElementEndL (e + 1) s fu (mat (μ.2 26) s) u σ = c_mwpE s fu2 u μ ∧ mat (μ.2 26) s ≤ c_mwpE s fu2 u μ ∧ c_mwpE s fu2 u μ ≤ u := by
  have k1 := h.2.2.2.2.2.e (s := s) hs (by omega)
  have k2 := h.2.2.2.2.2.e (s := s + 1) (by omega) (by omega)
  induction fu2 with
  | zero => intro u fu _ _ _ h; omega
  | succ fu2 ih =>
    intro u fu h0 h1 h2 h3
    cases fu with
    | zero => omega
    | succ fu =>
      rw [c_filledElementEndL, c_mwpE]
      by_cases c : u ≤ mat (μ.2 26) s
      · rw [if_pos c, if_pos c]; omega
      · rw [if_neg c, if_neg c]
        have fe := fe_eq h h29 (x := u - 1) (by omega) (by omega)
        have r1 : rat (σ.1 (e + 1 + 5)) (u - 1) = mat (μ.2 28) (u - 1) := h.2.2.1.in (by omega) (by omega)
        rw [fe.1, r1]
        by_cases d : c_mkept μ (u - 1) = 0
        · rw [if_pos d, if_pos (by omega)]
          have res := ih (u + (-1)) fu (by omega) (by omega) (by omega) (by omega)
          exact ⟨res.1, res.2.1, by omega⟩
        · rw [if_neg d, if_neg (by omega)]; exact ⟨rfl, h0, Int.le_refl _⟩
theorem ee_eq (h : PartR σ μ e N) (h29 : μ.1 29 ≤ 121) (h27 : μ.1 27 ≤ 121) {s : Int} (hs : 0 ≤ s) (hs2 : s < μ.1 24) : c_filledElementEnd σ (e + 1) s = c_mwpE s 122 (mat (μ.2 26) (s + 1)) μ ∧ mat (μ.2 26) s ≤ c_mwpE s 122 (mat (μ.2 26) (s + 1)) μ ∧ c_mwpE s 122 (mat (μ.2 26) (s + 1)) μ ≤ mat (μ.2 26) (s + 1) := by
  have k1 := h.2.2.2.2.2.e (s := s) hs (by omega)
  have k2 := h.2.2.2.2.2.e (s := s + 1) (by omega) (by omega)
  have mo := h.2.2.2.2.2.2.2.2.1.2.2 s hs hs2
  unfold c_filledElementEnd
  have r1 : rat (σ.1 (e + 1 + 3)) s = mat (μ.2 26) s := h.2.1.in hs (by omega)
  have r2 : rat (σ.1 (e + 1 + 3)) (s + 1) = mat (μ.2 26) (s + 1) := h.2.1.in (by omega) (by omega)
  rw [r1, r2]
  exact ee_L h h29 hs hs2 122 _ 100003001 mo (Int.le_refl _) (by omega) (by omega)
end KE
section PR2
variable {σb : cS} {μb : mS} {q e : Nat} {N : Int}
theorem k_w (he : 12 ≤ e) (hp : PartR σb μb e N) {x n s u : Int} (hx : 0 ≤ x) (hx2 : x < μb.1 27) (hn : n ≤ mat (μb.2 28) (x + 1) - mat (μb.2 28) x) (fu : Nat) : ∀ (k l : Int) (σ : cS) (μ : mS) (fu2 : Nat), PP σ μ σb μb q l → 0 ≤ k → k ≤ n → n - k < (fu : Int) → n - k < (fu2 : Int) → l + (n - k) + 2 * (mat (μb.2 30) (mat (μb.2 28) x + n) - mat (μb.2 30) (mat (μb.2 28) x + k)) ≤ capq q →
    ∃ l', PP (c_putElementL q (e + 1) x fu (mat (μb.2 28) x) (mat (μb.2 28) x + n) (mat (μb.2 28) x + k) σ) (c_mwpK s u x n fu2 k μ) σb μb q l' ∧ l ≤ l' ∧ l' ≤ l + (n - k) + 2 * (mat (μb.2 30) (mat (μb.2 28) x + n) - mat (μb.2 30) (mat (μb.2 28) x + k)) - (if k ≤ 0 ∧ 0 < n then 1 else 0) := by
  have k1 := hp.2.2.2.2.2.c (s := x) hx (by omega)
  have k2 := hp.2.2.2.2.2.c (s := x + 1) (by omega) (by omega)
  have mo : ∀ c, 0 ≤ c → c < μb.1 29 → mat (μb.2 30) c ≤ mat (μb.2 30) (c + 1) := hp.2.2.2.2.2.2.2.2.2.2.2.2
  induction fu with
  | zero => intro k l σ μ fu2 _ _ _ h; omega
  | succ fu ih =>
    intro k l σ μ fu2 h h0 h1 h2 h3 h4
    cases fu2 with
    | zero => omega
    | succ fu2 =>
      rw [c_putElementL, c_mwpK]
      by_cases c : n ≤ k
      · rw [if_pos (by omega), if_pos c]
        have : k = n := by omega
        subst this
        exact ⟨l, h, Int.le_refl _, by rw [if_neg (by omega)]; omega⟩
      · rw [if_neg (by omega), if_neg c]
        have ck : cOK μb (mat (μb.2 28) x + k) := Or.inr ⟨by omega, by omega⟩
        have sz : c_msizeOf μb (mat (μb.2 28) x + k) = mat (μb.2 30) (mat (μb.2 28) x + (k + 1)) - mat (μb.2 30) (mat (μb.2 28) x + k) := by
          unfold c_msizeOf; rw [if_pos (by omega), show mat (μb.2 28) x + k + 1 = mat (μb.2 28) x + (k + 1) by omega]
        have m2 := mono_le2 (f := mat (μb.2 30)) (n := μb.1 29) (s := mat (μb.2 28) x + (k + 1)) (t := mat (μb.2 28) x + n) mo (by omega) (by omega) (by omega)
        have m9 := size_r hp ck
        have a28 : μ.2 28 = μb.2 28 := h.2.2.2.2.2 28 (by decide)
        rw [a28]
        by_cases d : k ≤ 0
        · rw [if_pos (by omega), if_pos d]
          obtain ⟨l1, p1, p2, p3⟩ := h.comp he hp ck (by omega)
          obtain ⟨l2, p4, p5, p6⟩ := ih (k + 1) l1 _ _ fu2 p1 (by omega) (by omega) (by omega) (by omega) (by omega)
          rw [show mat (μb.2 28) x + k + 1 = mat (μb.2 28) x + (k + 1) by omega]
          refine ⟨l2, p4, by omega, ?_⟩
          rw [if_neg (by omega)] at p6
          rw [if_pos (by omega)]; omega
        · rw [if_neg (by omega), if_neg d]
          obtain ⟨l1, p1, p2, p3⟩ := (h.w 58 (by omega)).comp he hp ck (by omega)
          obtain ⟨l2, p4, p5, p6⟩ := ih (k + 1) l1 _ _ fu2 p1 (by omega) (by omega) (by omega) (by omega) (by omega)
          rw [show mat (μb.2 28) x + k + 1 = mat (μb.2 28) x + (k + 1) by omega]
          refine ⟨l2, p4, by omega, ?_⟩
          rw [if_neg (by omega)] at p6
          rw [if_neg (by omega)]; omega
/-- how far the print may have come before element x -/
def PHI (μb : mS) (x : Int) : Int := mat (μb.2 28) x + 2 * mat (μb.2 30) (mat (μb.2 28) x)
theorem PHI_mo {x y : Int} (hp : PartR σb μb e N) (h0 : 0 ≤ x) (h1 : x ≤ y) (h2 : y ≤ μb.1 27) : PHI μb x ≤ PHI μb y := by
  have a := mono_le2 (f := mat (μb.2 28)) (n := μb.1 27) (fun s u v => Int.le_of_lt (hp.2.2.2.2.2.2.2.2.2.1.2.2 s u v)) h0 h1 h2
  have k1 := hp.2.2.2.2.2.c (s := x) h0 (by omega)
  have k2 := hp.2.2.2.2.2.c (s := y) (by omega) h2
  have b := mono_le2 (f := mat (μb.2 30)) (n := μb.1 29) hp.2.2.2.2.2.2.2.2.2.2.2.2 k1.1 a k2.2
  unfold PHI; omega
theorem elem_w (he : 12 ≤ e) (hp : PartR σb μb e N) (h29 : μb.1 29 ≤ 121) {x s u l : Int} {σ : cS} {μ : mS} (hx : 0 ≤ x) (hx2 : x < μb.1 27) (h : PP σ μ σb μb q l) (hl : l + (PHI μb (x + 1) - PHI μb x) ≤ capq q) : ∃ l', PP (c_putElement (cadd σ (q + 1) 43) q (e + 1) x) (c_mwpK s u x (c_mkept (c_mwrite μ 43) x) 122 0 (c_mwrite μ 43)) σb μb q l' ∧ l ≤ l' ∧ l' ≤ l + (PHI μb (x + 1) - PHI μb x) := by
  have k1 := hp.2.2.2.2.2.c (s := x) hx (by omega)
  have k2 := hp.2.2.2.2.2.c (s := x + 1) (by omega) (by omega)
  have st := hp.2.2.2.2.2.2.2.2.2.1.2.2 x hx hx2
  have mo : ∀ c, 0 ≤ c → c < μb.1 29 → mat (μb.2 30) c ≤ mat (μb.2 30) (c + 1) := hp.2.2.2.2.2.2.2.2.2.2.2.2
  have m1 := mono_le2 (f := mat (μb.2 30)) (n := μb.1 29) (s := mat (μb.2 28) x) (t := mat (μb.2 28) (x + 1)) mo (by omega) (by omega) (by omega)
  unfold PHI at hl ⊢
  have h1 := h.w 43 (by omega)
  have p1 := h1.part he hp
  have a27 : (c_mwrite μ 43).1 27 = μb.1 27 := h1.2.2.2.2.1 27 (by decide)
  have a29 : (c_mwrite μ 43).1 29 = μb.1 29 := h1.2.2.2.2.1 29 (by decide)
  have a28 : (c_mwrite μ 43).2 28 = μb.2 28 := h1.2.2.2.2.2 28 (by decide)
  have a30 : (c_mwrite μ 43).2 30 = μb.2 30 := h1.2.2.2.2.2 30 (by decide)
  have fe := fe_eq p1 (by omega) hx (by omega)
  rw [kept_c a28 a30, a28] at fe
  rw [kept_c a28 a30]
  have r1 : c_firstComponent (cadd σ (q + 1) 43) (e + 1) x = mat (μb.2 28) x := by rw [← a28]; exact p1.2.2.1.in hx (by omega)
  unfold c_putElement
  rw [r1, fe.1]
  have m2 := mono_le2 (f := mat (μb.2 30)) (n := μb.1 29) (s := mat (μb.2 28) x + c_mkept μb x) (t := mat (μb.2 28) (x + 1)) mo (by omega) (by omega) (by omega)
  by_cases c0 : c_mkept μb x = 0
  · rw [c0, Int.add_zero, c_putElementL, if_pos (Int.le_refl _), c_mwpK, if_pos (Int.le_refl _)]
    exact ⟨l + 1, h1, by omega, by omega⟩
  · by_cases cl : l + 1 + (c_mkept μb x - 0) + 2 * (mat (μb.2 30) (mat (μb.2 28) x + c_mkept μb x) - mat (μb.2 30) (mat (μb.2 28) x + 0)) ≤ capq q
    · obtain ⟨l', b1, b2, b3⟩ := k_w (s := s) (u := u) he hp hx hx2 fe.2.2 400003001 0 (l + 1) _ _ 122 h1 (by omega) fe.2.1 (by omega) (by omega) cl
      rw [Int.add_zero] at b1 b3
      rw [if_pos (by omega)] at b3
      exact ⟨l', b1, by omega, by omega⟩
    · -- the first component has no mark before it
      rw [Int.add_zero] at cl
      have ck : cOK μb (mat (μb.2 28) x) := Or.inr ⟨by omega, by omega⟩
      have sz : c_msizeOf μb (mat (μb.2 28) x) = mat (μb.2 30) (mat (μb.2 28) x + 1) - mat (μb.2 30) (mat (μb.2 28) x) := by
        unfold c_msizeOf; rw [if_pos (by omega)]
      have m3 := mono_le2 (f := mat (μb.2 30)) (n := μb.1 29) (s := mat (μb.2 28) x + 1) (t := mat (μb.2 28) x + c_mkept μb x) mo (by omega) (by omega) (by omega)
      rw [c_putElementL, if_neg (by omega), if_pos (Int.le_refl _), c_mwpK, if_neg (by omega), if_pos (Int.le_refl _), a28, Int.add_zero]
      obtain ⟨l1, p1, p2, p3⟩ := h1.comp he hp ck (by omega)
      obtain ⟨l', b1, b2, b3⟩ := k_w (s := s) (u := u) he hp hx hx2 fe.2.2 400003000 1 l1 _ _ 121 p1 (by omega) (by omega) (by omega) (by omega) (by omega)
      rw [if_neg (by omega)] at b3
      exact ⟨l', b1, by omega, by omega⟩
theorem x_w (he : 12 ≤ e) (hp : PartR σb μb e N) (h29 : μb.1 29 ≤ 121) {s u : Int} (hu : u ≤ μb.1 27) (fu : Nat) : ∀ (x l : Int) (σ : cS) (μ : mS) (fu2 : Nat), PP σ μ σb μb q l → 0 ≤ x → x ≤ u → u - x < (fu : Int) → u - x < (fu2 : Int) → l + (PHI μb u - PHI μb x) ≤ capq q →
    ∃ l', PP (c_writePrintI q (e + 1) s u fu x σ) (c_mwpX s u fu2 x μ) σb μb q l' ∧ l ≤ l' ∧ l' ≤ l + (PHI μb u - PHI μb x) := by
  induction fu with
  | zero => intro x l σ μ fu2 _ _ _ h; omega
  | succ fu ih =>
    intro x l σ μ fu2 h h0 h1 h2 h3 h4
    cases fu2 with
    | zero => omega
    | succ fu2 =>
      rw [c_writePrintI, c_mwpX]
      by_cases c : u ≤ x
      · rw [if_pos c, if_pos c]
        have : x = u := by omega
        subst this
        exact ⟨l, h, Int.le_refl _, by omega⟩
      · rw [if_neg c, if_neg c]
        have pm := PHI_mo (x := x + 1) (y := u) hp (by omega) (by omega) hu
        obtain ⟨l1, p1, p2, p3⟩ := elem_w (s := s) (u := u) he hp h29 h0 (by omega) h (by omega)
        obtain ⟨l2, p4, p5, p6⟩ := ih (x + 1) l1 _ _ fu2 p1 (by omega) (by omega) (by omega) (by omega) (by omega)
        exact ⟨l2, p4, by omega, by omega⟩
theorem s_w (he : 12 ≤ e) (hp : PartR σb μb e N) (hw : wfm μb) (hq : 4 * μb.1 24 + PHI μb (μb.1 27) ≤ capq q) (fu : Nat) : ∀ (s l : Int) (σ : cS) (μ : mS) (fu2 : Nat), PP σ μ σb μb q l → 0 ≤ s → s ≤ μb.1 24 → μb.1 24 - s < (fu : Int) → μb.1 24 - s < (fu2 : Int) → l ≤ 4 * s + PHI μb (mat (μb.2 26) s) →
    ∃ l', PP (c_writePrintL q (e + 1) fu s σ) (c_mwritePrintL fu2 s μ) σb μb q l' ∧ l' ≤ 4 * μb.1 24 + PHI μb (μb.1 27) := by
  have f27 := hw.f27
  have f29 := hw.f29
  induction fu with
  | zero => intro s l σ μ fu2 _ _ _ h; omega
  | succ fu ih =>
    intro s l σ μ fu2 h h0 h1 h2 h3 h4
    cases fu2 with
    | zero => omega
    | succ fu2 =>
      rw [c_writePrintL, c_mwritePrintL]
      have P0 := h.part he hp
      have a24 : μ.1 24 = μb.1 24 := h.2.2.2.2.1 24 (by decide)
      have sc : c_segmentCount σ (e + 1) = μb.1 24 := by rw [← a24]; exact P0.1.1
      rw [sc, a24]
      have eE : mat (μb.2 26) (μb.1 24) = μb.1 27 := hp.2.2.2.2.2.2.2.2.1.2.1
      by_cases c : μb.1 24 ≤ s
      · rw [if_pos c, if_pos c]
        have : s = μb.1 24 := by omega
        subst this
        rw [eE] at h4
        exact ⟨l, h, h4⟩
      · rw [if_neg c, if_neg c]
        have k1 := hp.2.2.2.2.2.e (s := s) h0 (by omega)
        have k2 := hp.2.2.2.2.2.e (s := s + 1) (by omega) (by omega)
        have mo := hp.2.2.2.2.2.2.2.2.1.2.2 s h0 (by omega)
        have pm := PHI_mo (x := mat (μb.2 26) s) (y := mat (μb.2 26) (s + 1)) hp k1.1 mo k2.2
        have pm2 := PHI_mo (x := mat (μb.2 26) (s + 1)) (y := μb.1 27) hp k2.1 k2.2 (Int.le_refl _)
        have a25 : μ.2 25 = μb.2 25 := h.2.2.2.2.2 25 (by decide)
        have a26 : μ.2 26 = μb.2 26 := h.2.2.2.2.2 26 (by decide)
        have tg : c_tagOf σ (e + 1) s = mat (μb.2 25) s := by rw [← a25]; exact P0.1.in h0 (by omega)
        have tp := hp.2.2.2.2.2.2.2.1 s h0 (by omega)
        have tu := (hw.a25 s).2
        rw [tg, a25, a26]
        have h5 := h.tag (v := mat (μb.2 25) s) (by omega) (by omega) (by omega)
        have P1 := h5.part he hp
        have b24 : (c_mwriteTag μ (mat (μb.2 25) s)).1 24 = μb.1 24 := h5.2.2.2.2.1 24 (by decide)
        have b27 : (c_mwriteTag μ (mat (μb.2 25) s)).1 27 = μb.1 27 := h5.2.2.2.2.1 27 (by decide)
        have b29 : (c_mwriteTag μ (mat (μb.2 25) s)).1 29 = μb.1 29 := h5.2.2.2.2.1 29 (by decide)
        have b26 : (c_mwriteTag μ (mat (μb.2 25) s)).2 26 = μb.2 26 := h5.2.2.2.2.2 26 (by decide)
        have ee := ee_eq P1 (by omega) (by omega) h0 (by omega)
        have fe : c_firstElement (c_putTag σ q (mat (μb.2 25) s)) (e + 1) s = mat (μb.2 26) s := by rw [← b26]; exact P1.2.1.in h0 (by omega)
        rw [b26] at ee
        rw [ee.1, fe]
        generalize hu : c_mwpE s 122 (mat (μb.2 26) (s + 1)) (c_mwriteTag μ (mat (μb.2 25) s)) = u at *
        have pm3 := PHI_mo (x := mat (μb.2 26) s) (y := u) hp k1.1 ee.2.1 (by omega)
        have pm4 := PHI_mo (x := u) (y := mat (μb.2 26) (s + 1)) hp (by omega) ee.2.2 k2.2
        obtain ⟨l1, p1, p2, p3⟩ := x_w (s := s) (u := u) he hp f29.2 (by omega) 400003001 (mat (μb.2 26) s) (l + 3) _ _ 122 h5 k1.1 ee.2.1 (by omega) (by omega) (by omega)
        have h6 := p1.w 39 (by omega)
        exact ih (s + 1) (l1 + 1) _ _ fu2 h6 (by omega) (by omega) (by omega) (by omega) (by omega)
end PR2
