/-! the ends of groups and of the whole -/
theorem PartR_cl {σ σ' : cS} {μ : mS} {e : Nat} {N : Int} (h : PartR σ μ e N) (hr : ∀ r, e + 2 ≤ r → r ≤ e + 10 → σ'.1 r = σ.1 r) : PartR σ' μ e N := by
  unfold PartR at h ⊢
  rw [hr (e + 2) (by omega) (by omega), hr (e + 4) (by omega) (by omega), hr (e + 6) (by omega) (by omega), hr (e + 8) (by omega) (by omega), hr (e + 10) (by omega) (by omega)]; exact h
theorem PartR_mo {σ : cS} {μ μ' : mS} {e : Nat} {N : Int} (h : PartR σ μ e N) (h1 : μ'.1 24 = μ.1 24 ∧ μ'.1 27 = μ.1 27 ∧ μ'.1 29 = μ.1 29) (h2 : ∀ k, 25 ≤ k → k ≤ 31 → μ'.2 k = μ.2 k) : PartR σ μ' e N := by
  unfold PartR at h ⊢
  rw [h1.1, h1.2.1, h1.2.2, h2 25 (by omega) (by omega), h2 26 (by omega) (by omega), h2 28 (by omega) (by omega), h2 30 (by omega) (by omega), h2 31 (by omega) (by omega)]; exact h
theorem je_run {μ : mS} {e : Nat} {N gg : Int} {a40 a41 : List Int} {cn : Int → Int} (ho : ∀ g, 0 ≤ g → g < gg → 1 ≤ mat a40 g ∧ mat a40 g < μ.1 24 ∧ 1 ≤ mat a41 g ∧ mat a41 g < μ.1 24) (fu : Nat) : ∀ (k : Int) (σ : cS), PartR σ μ e N → rowIs (σ.1 (e + 22)) a40 0 gg → rowIs (σ.1 (e + 24)) a41 0 gg → (∀ g, 0 ≤ g → g < gg → rat (σ.1 (e + 26)) g = cn g) → ((σ.1 (e + 28)).length : Int) = gg → 0 ≤ k → k ≤ gg → gg - k < (fu : Int) →
    (((c_judgeEndsL e fu k σ).1 (e + 28)).length : Int) = gg ∧ (∀ g, 0 ≤ g → g < k → rat ((c_judgeEndsL e fu k σ).1 (e + 28)) g = rat (σ.1 (e + 28)) g) ∧ (∀ g, k ≤ g → g < gg → rat ((c_judgeEndsL e fu k σ).1 (e + 28)) g = c_mcheck μ (mat a40 g) 0 (mat a41 g) (cn g)) := by
  induction fu with
  | zero => intro k σ _ _ _ _ _ _ _ h; omega
  | succ fu ih =>
    intro k σ hp h22 h24 h26 h28 h0 h1 h2
    rw [c_judgeEndsL]
    have l22 : ((σ.1 (e + 22)).length : Int) = gg := h22.1
    by_cases c : gg ≤ k
    · rw [if_pos (show ((σ.1 (e + 22)).length : Int) ≤ k by omega)]
      exact ⟨h28, fun g a b => rfl, fun g a b => by omega⟩
    · rw [if_neg (show ¬ ((σ.1 (e + 22)).length : Int) ≤ k by omega)]
      have o := ho k h0 (by omega)
      have ev : c_codeOfEnd σ e (c_referenceOfGroup σ e k) (rat (σ.1 (e + 24)) k) (rat (σ.1 (e + 26)) k) = c_mcheck μ (mat a40 k) 0 (mat a41 k) (cn k) := by
        unfold c_referenceOfGroup
        rw [h22.in h0 (by omega), h24.in h0 (by omega), h26 k h0 (by omega)]
        exact J_code hp (by omega) (by omega) (by omega) (by omega) (by omega)
      rw [ev]
      have p0 : ∀ v r, r ≠ e + 28 → (cput σ (e + 28) k v).1 r = σ.1 r := fun v r hr => by simp [cput, upR, hr]
      have p28 : ∀ v, (cput σ (e + 28) k v).1 (e + 28) = (σ.1 (e + 28)).set k.toNat v := fun v => by simp [cput, upR, h0]
      have res := ih (k + 1) (cput σ (e + 28) k (c_mcheck μ (mat a40 k) 0 (mat a41 k) (cn k))) (PartR_cl hp (fun r a b => p0 _ r (by omega))) (by rw [p0 _ _ (by omega)]; exact h22) (by rw [p0 _ _ (by omega)]; exact h24) (fun g a b => by rw [p0 _ _ (by omega)]; exact h26 g a b) (by rw [p28, List.length_set]; exact h28) (by omega) (by omega) (by omega)
      rw [p28] at res
      refine ⟨res.1, fun g a b => ?_, fun g a b => ?_⟩
      · rw [res.2.1 g a (by omega), rat_set_ne h0 (by omega)]
      · by_cases eg : g = k
        · subst eg; rw [res.2.1 g h0 (by omega), rat_set h0 (by omega)]
        · exact res.2.2 g (by omega) b
theorem rg_run {σ : cS} {e : Nat} {N gg M : Int} (hM : M ≤ 20) (hG : gg ≤ 20) (fu : Nat) : ∀ (g : Int) (μ : mS), PartR σ μ e N → μ.1 39 = gg → μ.1 33 = M → 0 ≤ M → (∀ g, 0 ≤ g → g < gg → 1 ≤ mat (μ.2 40) g ∧ mat (μ.2 40) g < μ.1 24 ∧ 1 ≤ mat (μ.2 41) g ∧ mat (μ.2 41) g < μ.1 24) → (μ.2 42).length = 20 → 0 ≤ g → g ≤ gg → gg - g < (fu : Int) →
    (∀ h, 0 ≤ h → h < g → mat ((c_mreadG fu g μ).2 42) h = mat (μ.2 42) h) ∧ (∀ h, g ≤ h → h < gg → mat ((c_mreadG fu g μ).2 42) h = c_codeOfEnd σ e (c_componentAt σ (e + 1) (mat (μ.2 40) h) 0 0) (mat (μ.2 41) h) (cntg (μ.2 36) h M.toNat)) := by
  induction fu with
  | zero => intro g μ _ _ _ _ _ _ _ _ h; omega
  | succ fu ih =>
    intro g μ hp h39 h33 hM0 ho hl h0 h1 h2
    rw [c_mreadG, h39]
    by_cases c : gg ≤ g
    · rw [if_pos c]; exact ⟨fun h a b => rfl, fun h a b => by omega⟩
    · rw [if_neg c]
      have o := ho g h0 (by omega)
      have en : c_mreadN g 21 0 0 μ = cntg (μ.2 36) g M.toNat := by
        rw [rn_eq h33 hM 21 0 0 (by omega) hM0 (by omega)]
        show 0 + (cntg (μ.2 36) g M.toNat - 0) = _; omega
      rw [en, ← J_code hp (by omega) (by omega) (by omega) (by omega) (by omega)]
      generalize hv : c_codeOfEnd σ e (c_componentAt σ (e + 1) (mat (μ.2 40) g) 0 0) (mat (μ.2 41) g) (cntg (μ.2 36) g M.toNat) = v
      have m42 : (mar μ 42 g v).2 42 = (μ.2 42).set g.toNat v := by simp [mar, upF]
      have res := ih (g + 1) (mar μ 42 g v) (PartR_mo hp ⟨rfl, rfl, rfl⟩ (fun k a b => by simp [mar, upF, show k ≠ 42 by omega])) h39 h33 hM0 ho (by rw [m42, List.length_set]; exact hl) (by omega) (by omega) (by omega)
      rw [m42] at res
      refine ⟨fun h a b => ?_, fun h a b => ?_⟩
      · rw [res.1 h a (by omega), mat_set_ne (by omega)]
      · by_cases eh : h = g
        · subst eh
          rw [res.1 h h0 (by omega), mat_set (by omega), ← hv]
        · exact res.2 h (by omega) b
