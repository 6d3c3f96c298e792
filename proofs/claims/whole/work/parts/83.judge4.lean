/-! all messages, all groups -/
/-- what the judging of messages leaves alone -/
def FRJ (σ σ' : cS) (e : Nat) : Prop := (∀ r, r ≠ e + 18 → r ≠ e + 20 → (r < 72 ∨ ∃ t, 0 ≤ t ∧ t ≤ 3 ∧ tb t < r ∧ r < tb t + 9) → σ'.1 r = σ.1 r) ∧ (∀ p k, (p < 72 ∨ k = 4 ∨ k = 5) → σ'.2.1 p k = σ.2.1 p k) ∧ σ'.2.2 = σ.2.2
theorem FRJ.rf {σ : cS} {e : Nat} : FRJ σ σ e := ⟨fun _ _ _ _ => rfl, fun _ _ _ => rfl, rfl⟩
theorem FRJ.tr {σ σ' σ'' : cS} {e : Nat} (h : FRJ σ σ' e) (h2 : FRJ σ' σ'' e) : FRJ σ σ'' e := ⟨fun r a b c => (h2.1 r a b c).trans (h.1 r a b c), fun p k a => (h2.2.1 p k a).trans (h.2.1 p k a), h2.2.2.trans h.2.2⟩
theorem judge_fr {σ : cS} {e : Nat} {j : Int} : FRJ σ (if 0 ≤ c_typeOf σ e j ∧ c_typeOf σ e j < 4 then c_judgeMessage σ e j (72 + 11 * Int.toNat (c_typeOf σ e j)) else c_judgeMessageN σ e j) e := by
  by_cases c : 0 ≤ c_typeOf σ e j ∧ c_typeOf σ e j < 4
  · rw [if_pos c]
    refine ⟨fun r a b q => y_judgeMessage ?_, fun p k q => z_judgeMessage ?_, k_judgeMessage⟩
    · have h9 : r ≠ 72 + 11 * Int.toNat (c_typeOf σ e j) + 9 := by
        rcases q with q | ⟨t, t0, t1, t2, t3⟩
        · omega
        · unfold tb at t2 t3; omega
      simp [a, b, h9]
    · intro z; omega
  · rw [if_neg c]
    exact ⟨fun r a b q => y_judgeMessageN (by simp [a, b]), fun p k q => z_judgeMessageN, k_judgeMessageN⟩
theorem BR.step {σ σ' : cS} {μ μ' : mS} {e : Nat} {N M : Int} (h : BR σ μ e N M) (hf : FRJ σ σ' e) (hw : wfm μ') (h1 : ∀ k, k ∉ ([43, 44, 45] : List Nat) → μ'.1 k = μ.1 k) (h2 : ∀ k, k ∉ ([46, 47, 37, 38] : List Nat) → μ'.2 k = μ.2 k) : BR σ' μ' e N M := by
  obtain ⟨a1, a2, ⟨p1, p2, p3, p4, p5, p6⟩, a4, a5, a6, a7⟩ := h
  have k42 : e ≤ 42 := kd_all (c := 0) (Q := fun e => e ≤ 42) (by decide) (by decide) a1
  have r : ∀ r, r ≠ e + 18 → r ≠ e + 20 → r < 72 → σ'.1 r = σ.1 r := fun r x y z => hf.1 r x y (Or.inl z)
  refine ⟨a1, hw, ?_, fun t t0 t1 => ?_, ?_, a6, ?_⟩
  · unfold PartR
    rw [r (e + 2) (by omega) (by omega) (by omega), r (e + 4) (by omega) (by omega) (by omega), r (e + 6) (by omega) (by omega) (by omega), r (e + 8) (by omega) (by omega) (by omega), r (e + 10) (by omega) (by omega) (by omega), h1 24 (by decide), h1 27 (by decide), h1 29 (by decide), h2 25 (by decide), h2 26 (by decide), h2 28 (by decide), h2 30 (by decide), h2 31 (by decide)]
    exact ⟨p1, p2, p3, p4, p5, p6⟩
  · have tt : 72 ≤ tb t := by unfold tb; omega
    exact TabR_congr (fun x b1 b2 => hf.1 x (by omega) (by omega) (Or.inr ⟨t, t0, t1, b1, b2⟩)) (hf.2.1 _ _ (by omega)) (hf.2.1 _ _ (by omega)) (fun k b1 b2 => h2 k (by simp; omega)) (a4 t t0 t1)
  · rw [r (e + 12) (by omega) (by omega) (by omega), r (e + 14) (by omega) (by omega) (by omega), h2 34 (by decide), h2 35 (by decide)]; exact a5
  · rw [h2 34 (by decide), h2 35 (by decide), h1 24 (by decide)]; exact a7
theorem rj_run {e : Nat} {N M : Int} (fu : Nat) : ∀ (j : Int) (σ : cS) (μ : mS) (fu2 : Nat), BR σ μ e N M → 54 - σ.2.2 = e → μ.1 33 = M → ((σ.1 (e + 18)).length : Int) = M → ((σ.1 (e + 20)).length : Int) = M → (∀ k, 0 ≤ k → k < j → rat (σ.1 (e + 18)) k = mat (μ.2 37) k ∧ rat (σ.1 (e + 20)) k = mat (μ.2 38) k ∧ (mat (μ.2 37) k = 0 ∨ 0 ≤ mat (μ.2 38) k)) → 0 ≤ j → j ≤ M → M - j < (fu : Int) → M - j < (fu2 : Int) →
    FRJ σ (c_readI fu j σ) e ∧ rowIs ((c_readI fu j σ).1 (e + 18)) ((c_mreadJ fu2 j μ).2 37) 0 M ∧ rowIs ((c_readI fu j σ).1 (e + 20)) ((c_mreadJ fu2 j μ).2 38) 0 M ∧ BR (c_readI fu j σ) (c_mreadJ fu2 j μ) e N M ∧ (∀ k, 0 ≤ k → k < M → mat ((c_mreadJ fu2 j μ).2 37) k = 0 ∨ 0 ≤ mat ((c_mreadJ fu2 j μ).2 38) k) := by
  induction fu with
  | zero => intro j σ μ fu2 _ _ _ _ _ _ _ _ h; omega
  | succ fu ih =>
    intro j σ μ fu2 h hk h33 h18 h20 hag h0 h1 h2 h3
    cases fu2 with
    | zero => omega
    | succ fu2 =>
      rw [c_readI, c_mreadJ, hk, h33]
      have mc : c_messageCount σ e = M := h.2.2.2.2.1.1.1
      rw [mc]
      by_cases c : M ≤ j
      · rw [if_pos c, if_pos c]
        exact ⟨FRJ.rf, ⟨h18, fun i i0 i1 => by rw [Int.zero_add]; exact (hag i i0 (by omega)).1⟩, ⟨h20, fun i i0 i1 => by rw [Int.zero_add]; exact (hag i i0 (by omega)).2.1⟩, h, fun k k0 k1 => (hag k k0 (by omega)).2.2⟩
      · rw [if_neg c, if_neg c]
        obtain ⟨cd, pl, τ, q1, q2, q3, q4⟩ := judge_eq h h0 (show j < M by omega)
        have jf := judge_fr (σ := σ) (e := e) (j := j)
        have hM := h.2.2.2.2.2.1
        have k42 : e ≤ 42 := kd_all (c := 0) (Q := fun e => e ≤ 42) (by decide) (by decide) h.1
        have hw := w_mjudge (i := j) h.2.1 (by omega) (fun t t0 t1 => (h.2.2.2.1 t t0 t1).2.2.2.2.2.2.2.2.2.2)
        have br := h.step jf hw (fun k hk => g1_mjudge hk) (fun k hk => g2_mjudge hk)
        have ei : (if 0 ≤ c_typeOf σ e j ∧ c_typeOf σ e j < 4 then c_readI fu (j + 1) (c_judgeMessage σ e j (72 + 11 * Int.toNat (c_typeOf σ e j))) else c_readI fu (j + 1) (c_judgeMessageN σ e j)) = c_readI fu (j + 1) (if 0 ≤ c_typeOf σ e j ∧ c_typeOf σ e j < 4 then c_judgeMessage σ e j (72 + 11 * Int.toNat (c_typeOf σ e j)) else c_judgeMessageN σ e j) := by
          by_cases d : 0 ≤ c_typeOf σ e j ∧ c_typeOf σ e j < 4
          · rw [if_pos d, if_pos d]
          · rw [if_neg d, if_neg d]
        rw [ei]
        have n18 : (if 0 ≤ c_typeOf σ e j ∧ c_typeOf σ e j < 4 then c_judgeMessage σ e j (72 + 11 * Int.toNat (c_typeOf σ e j)) else c_judgeMessageN σ e j).1 (e + 18) = (σ.1 (e + 18)).set j.toNat cd := by rw [q1, (note_1 h0).1, q2 _ (by omega)]
        have n20 : (if 0 ≤ c_typeOf σ e j ∧ c_typeOf σ e j < 4 then c_judgeMessage σ e j (72 + 11 * Int.toNat (c_typeOf σ e j)) else c_judgeMessageN σ e j).1 (e + 20) = (σ.1 (e + 20)).set j.toNat pl := by rw [q1, (note_1 h0).2, q2 _ (by omega)]
        generalize (if 0 ≤ c_typeOf σ e j ∧ c_typeOf σ e j < 4 then c_judgeMessage σ e j (72 + 11 * Int.toNat (c_typeOf σ e j)) else c_judgeMessageN σ e j) = σ1 at *
        have res := ih (j + 1) σ1 (c_mjudge μ j) fu2 br (by rw [jf.2.2]; exact hk) (by rw [g1_mjudge (by decide)]; exact h33) (by rw [n18, List.length_set]; exact h18) (by rw [n20, List.length_set]; exact h20) (fun k k0 k1 => by
          rw [n18, n20]
          by_cases ek : k = j
          · subst ek
            rw [rat_set k0 (by omega), rat_set k0 (by omega), q3.1, q3.2.1]; exact ⟨rfl, rfl, q4⟩
          · have z := q3.2.2 k k0 ek
            rw [rat_set_ne h0 (by omega), rat_set_ne h0 (by omega), z.1, z.2]; exact hag k k0 (by omega)) (by omega) (by omega) (by omega) (by omega)
        exact ⟨jf.tr res.1, res.2⟩
theorem rn_eq {g M : Int} {μ : mS} (h33 : μ.1 33 = M) (hM : M ≤ 20) (fu : Nat) : ∀ (n i : Int), 0 ≤ i → i ≤ M → M - i < (fu : Int) → c_mreadN g fu n i μ = n + (cntg (μ.2 36) g M.toNat - cntg (μ.2 36) g i.toNat) := by
  induction fu with
  | zero => intro n i _ _ h; omega
  | succ fu ih =>
    intro n i h0 h1 h2
    rw [c_mreadN, h33]
    by_cases c : M ≤ i
    · rw [if_pos c, show i = M by omega]; omega
    · rw [if_neg c]
      have e1 : cntg (μ.2 36) g (i + 1).toNat = cntg (μ.2 36) g i.toNat + (if mat (μ.2 36) i = g then 1 else 0) := by
        rw [show (i + 1).toNat = i.toNat + 1 by omega, cntg, show ((i.toNat : Nat) : Int) = i by omega]
      by_cases d : mat (μ.2 36) i = g
      · rw [if_pos d] at e1 ⊢
        rw [ih (n + 1) (i + 1) (by omega) (by omega) (by omega), e1]; omega
      · rw [if_neg d] at e1 ⊢
        rw [ih (n + 0) (i + 1) (by omega) (by omega) (by omega), e1]; omega
