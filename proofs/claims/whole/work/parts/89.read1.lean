/-! read, what a failing one keeps; what take leaves -/
theorem LoadR_congr2 {σ σ' : cS} {μ μ' : mS} (hk : σ'.2.2 = σ.2.2) (hr : ∀ r, (σ.2.2 + 2 ≤ r ∧ r ≤ σ.2.2 + 28 ∨ r = 7 ∨ r = 10) → σ'.1 r = σ.1 r) (hc : σ'.2.1 σ.2.2 10 = σ.2.1 σ.2.2 10) (h1 : ∀ k, 24 ≤ k → k ≤ 51 → μ'.1 k = μ.1 k) (h2 : ∀ k, 24 ≤ k → k ≤ 51 → μ'.2 k = μ.2 k) (h : LoadR σ μ) : LoadR σ' μ' := by
  obtain ⟨⟨N, p1, p2, p3, p4, p5, p6⟩, a1, a2, a3, a4, a5, a6, a7, a8, a9, a10⟩ := h
  unfold LoadR PartR
  rw [hk, hr (σ.2.2 + 2) (by omega), hr (σ.2.2 + 4) (by omega), hr (σ.2.2 + 6) (by omega), hr (σ.2.2 + 8) (by omega), hr (σ.2.2 + 10) (by omega), hr (σ.2.2 + 12) (by omega), hr (σ.2.2 + 14) (by omega), hr (σ.2.2 + 16) (by omega), hr (σ.2.2 + 18) (by omega), hr (σ.2.2 + 20) (by omega), hr (σ.2.2 + 22) (by omega), hr (σ.2.2 + 28) (by omega), hr 7 (by omega), hr 10 (by omega), hc,
    h1 24 (by omega) (by omega), h1 27 (by omega) (by omega), h1 29 (by omega) (by omega), h1 33 (by omega) (by omega), h1 39 (by omega) (by omega), h1 32 (by omega) (by omega), h1 48 (by omega) (by omega), h1 50 (by omega) (by omega),
    h2 25 (by omega) (by omega), h2 26 (by omega) (by omega), h2 28 (by omega) (by omega), h2 30 (by omega) (by omega), h2 31 (by omega) (by omega), h2 34 (by omega) (by omega), h2 35 (by omega) (by omega), h2 36 (by omega) (by omega), h2 37 (by omega) (by omega), h2 38 (by omega) (by omega), h2 42 (by omega) (by omega), h2 49 (by omega) (by omega), h2 51 (by omega) (by omega)]
  exact ⟨⟨N, p1, p2, p3, p4, p5, p6⟩, a1, a2, a3, a4, a5, a6, a7, a8, a9, a10⟩
theorem R_keep {σ σ' : cS} {μ μ' : mS} {e : Nat} (h : R σ μ) (he : e = 54 - σ.2.2) (hw : wf σ') (hm : wfm μ') (hr : ∀ r, (r < e + 2 ∨ e + 30 ≤ r) → σ'.1 r = σ.1 r) (hi : ∀ p k, p ≠ 2 → p ≠ e → ¬ (p = 1 ∧ k = 7) → σ'.2.1 p k = σ.2.1 p k) (hk : σ'.2.2 = σ.2.2) (hf : ∀ k, (k = 1 ∨ k = 23 ∨ 24 ≤ k ∧ k ≤ 51) → μ'.1 k = μ.1 k) (ha : ∀ k, (2 ≤ k ∧ k ≤ 8 ∨ 24 ≤ k ∧ k ≤ 51) → μ'.2 k = μ.2 k) (h13 : σ'.2.1 1 7 = μ'.1 13) : R σ' μ' := by
  obtain ⟨w1, w2, hrow, htx, a3, a4, a5, a6⟩ := h
  have kk := w1.2.2.2
  refine ⟨hw, hm, ?_, ?_, fun t t0 t1 => ?_, ?_, h13, ?_⟩
  · rw [hr 3 (by omega), ha 2 (by omega), hf 1 (by omega)]; exact hrow
  · rw [ha 2 (by omega), hf 1 (by omega)]; exact htx
  · have tt : 72 ≤ tb t := by unfold tb; omega
    exact TabR_congr (fun r b1 b2 => hr r (by omega)) (hi _ _ (by omega) (by omega) (by omega)) (hi _ _ (by omega) (by omega) (by omega)) (fun k b1 b2 => ha k (by omega)) (a3 t t0 t1)
  · rw [hi 1 6 (by omega) (by omega) (by omega), hf 23 (by omega)]; exact a4
  · rw [hf 23 (by omega)]
    rcases a6 with z | z
    · exact Or.inl z
    · exact Or.inr (LoadR_congr2 (σ := σ) hk (fun r b => hr r (by omega)) (hi _ _ (by omega) (by omega) (by omega)) (fun k b1 b2 => hf k (by omega)) (fun k b1 b2 => ha k (by omega)) z)
theorem g5 {fu : Nat} : ∀ {k : Int} {ν : mS} {j : Nat}, j ∉ ([34, 35, 36, 40, 41] : List Nat) → (c_mtakeL5 fu k ν).2 j = ν.2 j := by
  intro k ν j h
  simp only [List.mem_cons, List.not_mem_nil, or_false, not_or] at h
  induction fu generalizing k ν with
  | zero => rfl
  | succ fu ih =>
    unfold c_mtakeL5
    (repeat' split) <;> simp [mfl, mar, upF, h, ih]
theorem partsOK_pt {a25 a26 a28 a30 b25 b26 b28 b30 : List Int} {S E C N : Int} (h : partsOK a25 a26 a28 a30 S E C N) (h25 : ∀ x, 0 ≤ x → x ≤ S → mat b25 x = mat a25 x) (h26 : ∀ x, 0 ≤ x → x ≤ S → mat b26 x = mat a26 x) (h28 : ∀ x, 0 ≤ x → x ≤ E → mat b28 x = mat a28 x) (h30 : ∀ x, 0 ≤ x → x ≤ C → mat b30 x = mat a30 x) : partsOK b25 b26 b28 b30 S E C N := by
  obtain ⟨p0, p1, p2, ⟨q1, q2, q3⟩, ⟨r1, r2, r3⟩, ⟨s1, s2, s3⟩⟩ := h
  refine ⟨p0, p1, fun s a b => ?_, ⟨?_, ?_, fun s a b => ?_⟩, ⟨?_, ?_, fun s a b => ?_⟩, ⟨?_, ?_, fun s a b => ?_⟩⟩
  · rw [h25 s a (by omega)]; exact p2 s a b
  · rw [h26 0 (by omega) (by omega)]; exact q1
  · rw [h26 S (by omega) (by omega)]; exact q2
  · rw [h26 s a (by omega), h26 (s + 1) (by omega) (by omega)]; exact q3 s a b
  · rw [h28 0 (by omega) (by omega)]; exact r1
  · rw [h28 E (by omega) (by omega)]; exact r2
  · rw [h28 s a (by omega), h28 (s + 1) (by omega) (by omega)]; exact r3 s a b
  · rw [h30 0 (by omega) (by omega)]; exact s1
  · rw [h30 C (by omega) (by omega)]; exact s2
  · rw [h30 s a (by omega), h30 (s + 1) (by omega) (by omega)]; exact s3 s a b
theorem rowIs_pt {row a b : List Int} {n : Int} (h : rowIs row a 0 n) (hp : ∀ x, 0 ≤ x → x < n → mat b x = mat a x) : rowIs row b 0 n := ⟨h.1, fun i i0 i1 => by rw [Int.zero_add, hp i i0 i1]; exact h.in i0 i1⟩
