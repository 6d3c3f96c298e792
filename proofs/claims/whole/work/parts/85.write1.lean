/-! what is written -/
def capq (q : Nat) : Int := if q = 6 then 800 else 1060
def PW (σ : cS) (μ : mS) (q : Nat) : Prop := (q = 6 ∧ μ.1 52 = 0 ∧ rowIs (σ.1 (q + 1)) (μ.2 49) 0 (μ.1 48) ∧ (μ.2 49).length = 1200) ∨ (q = 9 ∧ ¬ μ.1 52 = 0 ∧ rowIs (σ.1 (q + 1)) (μ.2 51) 0 (μ.1 50) ∧ (μ.2 51).length = 2400)
/-- one has written l characters, and nothing else has changed -/
def PP (σ : cS) (μ : mS) (σb : cS) (μb : mS) (q : Nat) (l : Int) : Prop :=
  PW σ μ q ∧ ((σ.1 (q + 1)).length : Int) = l ∧ (∀ r, r ≠ q + 1 → σ.1 r = σb.1 r) ∧ σ.2 = σb.2 ∧ (∀ k, k ∉ ([48, 50] : List Nat) → μ.1 k = μb.1 k) ∧ (∀ k, k ∉ ([49, 51] : List Nat) → μ.2 k = μb.2 k)
section PPs
variable {σ σb : cS} {μ μb : mS} {q e : Nat} {l N : Int}
theorem PP.w (h : PP σ μ σb μb q l) (c : Int) (hl : l < capq q) : PP (cadd σ (q + 1) c) (c_mwrite μ c) σb μb q (l + 1) := by
  obtain ⟨pw, pl, pr, ps, pf, pa⟩ := h
  have hq : q = 6 ∨ q = 9 := by rcases pw with z | z <;> omega
  have hc : (cap (q + 1) : Int) = capq q := by rcases hq with z | z <;> subst z <;> decide
  have e : cadd σ (q + 1) c = (upR σ.1 (q + 1) (σ.1 (q + 1) ++ [c]), σ.2) := cadd_eq (by omega)
  have r1 : (cadd σ (q + 1) c).1 (q + 1) = σ.1 (q + 1) ++ [c] := by rw [e]; exact upR_same
  have cq : capq q ≤ 1060 := by unfold capq; split <;> omega
  have c6 : q = 6 → capq q = 800 := fun z => by unfold capq; rw [if_pos z]
  refine ⟨?_, by rw [r1, List.length_append]; simp; omega, fun r hr => by rw [e]; exact (upR_ne hr).trans (pr r hr), by rw [e]; exact ps, fun k hk => (g1_mwrite hk).trans (pf k hk), fun k hk => (g2_mwrite hk).trans (pa k hk)⟩
  rcases pw with ⟨z1, z2, z3, z4⟩ | ⟨z1, z2, z3, z4⟩
  · have h48 := z3.1
    have e2 : c_mwrite μ c = mfl (mar μ 49 (μ.1 48) c) 48 (μ.1 48 + 1) := by unfold c_mwrite; rw [if_pos z2]
    refine Or.inl ⟨z1, by rw [e2]; exact z2, ?_, ?_⟩
    · rw [r1, e2]
      show rowIs _ ((μ.2 49).set (μ.1 48).toNat c) 0 (μ.1 48 + 1)
      have w := rowIs_add (v := c) z3 (by omega) (by have := c6 z1; omega)
      rw [Int.zero_add] at w; exact w
    · rw [e2]; show ((μ.2 49).set (μ.1 48).toNat c).length = 1200; rw [List.length_set]; exact z4
  · have h50 := z3.1
    have e2 : c_mwrite μ c = mfl (mar μ 51 (μ.1 50) c) 50 (μ.1 50 + 1) := by unfold c_mwrite; rw [if_neg z2]
    refine Or.inr ⟨z1, by rw [e2]; exact z2, ?_, ?_⟩
    · rw [r1, e2]
      show rowIs _ ((μ.2 51).set (μ.1 50).toNat c) 0 (μ.1 50 + 1)
      have w := rowIs_add (v := c) z3 (by omega) (by omega)
      rw [Int.zero_add] at w; exact w
    · rw [e2]; show ((μ.2 51).set (μ.1 50).toNat c).length = 2400; rw [List.length_set]; exact z4
theorem PP.tag (h : PP σ μ σb μb q l) {v : Int} (h0 : 0 ≤ v) (h1 : v < 16777216) (hl : l + 3 ≤ capq q) : PP (c_putTag σ q v) (c_mwriteTag μ v) σb μb q (l + 3) := by
  unfold c_putTag c_mwriteTag
  have e1 : (v % 4294967296 / 65536) % 256 = v / 65536 := by omega
  have e2 : (v % 4294967296 / 256) % 256 = (v / 256) % 256 := by omega
  rw [e1, e2, show l + 3 = l + 1 + 1 + 1 by omega]
  exact ((h.w _ (by omega)).w _ (by omega)).w _ (by omega)
theorem PP.part (h : PP σ μ σb μb q l) (he : 12 ≤ e) (hp : PartR σb μb e N) : PartR σ μ e N := by
  obtain ⟨pw, pl, pr, ps, pf, pa⟩ := h
  have hq : q = 6 ∨ q = 9 := by rcases pw with z | z <;> omega
  exact PartR_mo (PartR_cl hp (fun r a b => pr r (by omega))) ⟨pf 24 (by decide), pf 27 (by decide), pf 29 (by decide)⟩ (fun k a b => pa k (by simp; omega))
theorem PP.sz (h : PP σ μ σb μb q l) {c : Int} : c_msizeOf μ c = c_msizeOf μb c := by unfold c_msizeOf; rw [h.2.2.2.2.2 30 (by decide)]
theorem PP.ok (h : PP σ μ σb μb q l) {c : Int} (hc : cOK μb c) : cOK μ c := by unfold cOK at hc ⊢; rw [h.2.2.2.2.1 29 (by decide)]; exact hc
theorem comp_w (he : 12 ≤ e) (hp : PartR σb μb e N) {c : Int} (hc : cOK μb c) (fu : Nat) : ∀ (i l : Int) (σ : cS) (μ : mS) (fu2 : Nat), PP σ μ σb μb q l → 0 ≤ i → i ≤ c_msizeOf μb c → c_msizeOf μb c - i < (fu : Int) → c_msizeOf μb c - i < (fu2 : Int) → l + 2 * (c_msizeOf μb c - i) ≤ capq q →
    ∃ l', PP (c_putComponentL q (e + 1) c fu (c_msizeOf μb c) i σ) (c_mwriteComponentL c fu2 (c_msizeOf μb c) i μ) σb μb q l' ∧ l ≤ l' ∧ l' ≤ l + 2 * (c_msizeOf μb c - i) := by
  induction fu with
  | zero => intro i l σ μ fu2 _ _ _ h; omega
  | succ fu ih =>
    intro i l σ μ fu2 h h0 h1 h2 h3 h4
    cases fu2 with
    | zero => omega
    | succ fu2 =>
      rw [c_putComponentL, c_mwriteComponentL]
      by_cases cc : c_msizeOf μb c ≤ i
      · rw [if_pos cc, if_pos cc]; exact ⟨l, h, Int.le_refl _, by omega⟩
      · rw [if_neg cc, if_neg cc]
        have hP := h.part he hp
        have ch : c_characterOf σ (e + 1) c i = mat (μ.2 31) (mat (μ.2 30) c + i) := J_char hP (h.ok hc) h0 (by rw [h.sz]; omega)
        rw [ch]
        generalize mat (μ.2 31) (mat (μ.2 30) c + i) = x
        have two : ∃ l', PP (c_putComponentL q (e + 1) c fu (c_msizeOf μb c) (i + 1) (cadd (cadd σ (q + 1) 63) (q + 1) x)) (c_mwriteComponentL c fu2 (c_msizeOf μb c) (i + 1) (c_mwrite (c_mwrite μ 63) x)) σb μb q l' ∧ l ≤ l' ∧ l' ≤ l + 2 * (c_msizeOf μb c - i) := by
          obtain ⟨l', a, b, d⟩ := ih (i + 1) (l + 1 + 1) _ _ fu2 ((h.w 63 (by omega)).w x (by omega)) (by omega) (by omega) (by omega) (by omega) (by omega)
          exact ⟨l', a, by omega, by omega⟩
        have one : ∃ l', PP (c_putComponentL q (e + 1) c fu (c_msizeOf μb c) (i + 1) (cadd σ (q + 1) x)) (c_mwriteComponentL c fu2 (c_msizeOf μb c) (i + 1) (c_mwrite μ x)) σb μb q l' ∧ l ≤ l' ∧ l' ≤ l + 2 * (c_msizeOf μb c - i) := by
          obtain ⟨l', a, b, d⟩ := ih (i + 1) (l + 1) _ _ fu2 (h.w x (by omega)) (by omega) (by omega) (by omega) (by omega) (by omega)
          exact ⟨l', a, by omega, by omega⟩
        unfold c_isPrintMark
        by_cases d1 : x = 58
        · rw [if_pos d1, if_pos rfl, if_pos d1]; exact two
        rw [if_neg d1, if_neg d1]
        by_cases d2 : x = 43
        · rw [if_pos d2, if_pos rfl, if_pos d2]; exact two
        rw [if_neg d2, if_neg d2]
        by_cases d3 : x = 63
        · rw [if_pos d3, if_pos rfl, if_pos d3]; exact two
        rw [if_neg d3, if_neg d3]
        by_cases d4 : x = 39
        · rw [if_pos d4, if_pos rfl, if_pos d4]; exact two
        · rw [if_neg d4, if_neg (show ¬ false = true by decide), if_neg d4]; exact one
theorem PP.comp (h : PP σ μ σb μb q l) (he : 12 ≤ e) (hp : PartR σb μb e N) {c : Int} (hc : cOK μb c) (hl : l + 2 * c_msizeOf μb c ≤ capq q) : ∃ l', PP (c_putComponent σ q (e + 1) c) (c_mwriteComponent μ c) σb μb q l' ∧ l ≤ l' ∧ l' ≤ l + 2 * c_msizeOf μb c := by
  have sr := size_r hp hc
  unfold c_putComponent c_mwriteComponent
  rw [J_width (h.part he hp) (h.ok hc), h.sz]
  obtain ⟨l', a, b, d⟩ := comp_w he hp hc 400000001 0 l σ μ 401 h (by omega) sr.1 (by omega) (by omega) (by omega)
  exact ⟨l', a, b, by omega⟩
theorem PP.num (h : PP σ μ σb μb q l) {v : Int} (h0 : 0 ≤ v) (h1 : v ≤ 99) (hl : l + (if v < 10 then 1 else 2) ≤ capq q) : PP (c_putNumber σ q v) (c_mwriteNumber μ v) σb μb q (l + (if v < 10 then 1 else 2)) := by
  unfold c_putNumber c_mwriteNumber
  have et : Int.tmod v 10 = v % 10 := Int.tmod_eq_emod_of_nonneg h0
  rw [et, if_pos h1]
  by_cases c : v < 10
  · rw [if_pos c] at hl
    rw [if_pos c, if_pos c, if_pos (show v ≤ 9 by omega), c_mwriteNumberL, if_neg (by decide), c_mwriteNumberL, if_pos (by decide)]
    rw [show v / 1 % 10 = v % 10 by omega]
    exact h.w _ (by omega)
  · rw [if_neg c] at hl
    rw [if_neg c, if_neg c, if_neg (show ¬ v ≤ 9 by omega), c_mwriteNumberL, if_neg (by decide), c_mwriteNumberL, if_neg (by decide), c_mwriteNumberL, if_pos (by decide)]
    rw [show v / (10 / 10) % 10 = v % 10 by omega, show v / 10 % 10 = v / 10 by omega, show l + 2 = l + 1 + 1 by omega]
    exact (h.w _ (by omega)).w _ (by omega)
end PPs
