/-! read: the judging as a whole -/
def mu2 (μ : mS) : mS := mfl (mfl μ 23 1) 1 0
def muJ (μ : mS) : mS := c_mreadJ 21 0 (mu2 μ)
def muG (μ : mS) : mS := c_mreadG 21 0 (muJ μ)
def muP (μ : mS) : mS := mfl (muG μ) 32 (if (muG μ).1 39 ≤ 0 then c_mcheck (muG μ) 0 2 ((muG μ).1 24 - 1) ((muG μ).1 33) else c_mcheck (muG μ) 0 2 ((muG μ).1 24 - 1) ((muG μ).1 39))
def jdS (σ : cS) (e : Nat) : cS := c_readI 2002 0 (c_judgeEnds σ e)
theorem judged {σ : cS} {μ : mS} {e : Nat} {N n M gg : Int} (he : kd e = 0) (hk : 54 - σ.2.2 = e) (hm : wfm μ) (hp : PartR σ μ e N) (hT : ∀ t, 0 ≤ t → t ≤ 3 → TabR σ μ t) (fr : FR σ μ e n (n - 1) M gg gg) (h24 : μ.1 24 = n) (hn : n ≤ 40) (h4 : 4 ≤ n) (hg9 : gg ≤ 9) :
    wfm (muP μ) ∧ PartR (jdS σ e) (muP μ) e N ∧ (∀ t, 0 ≤ t → t ≤ 3 → TabR (jdS σ e) (muP μ) t) ∧ RB (jdS σ e) (muP μ) e M gg ∧ rowIs ((jdS σ e).1 (e + 14)) ((muP μ).2 35) 0 M ∧ (jdS σ e).2.1 e 10 = (muP μ).1 32 ∧
    (∀ r, r < e + 12 ∨ e + 30 ≤ r ∧ r < 72 → (jdS σ e).1 r = σ.1 r) ∧ (jdS σ e).2.2 = σ.2.2 ∧ (∀ p k, p < 72 → ¬ (p = e ∧ k = 10) → (jdS σ e).2.1 p k = σ.2.1 p k) ∧ (∀ k, k ∉ ([43, 44, 45, 32, 1, 23, 99] : List Nat) → (muP μ).1 k = μ.1 k) ∧ (muP μ).1 1 = 0 ∧ (muP μ).1 23 = 1 ∧ (∀ k, k ∉ ([46, 47, 37, 38, 42] : List Nat) → (muP μ).2 k = μ.2 k) ∧ (muP μ).1 39 = gg := by
  have k42 : e ≤ 42 := kd_all (c := 0) (Q := fun e => e ≤ 42) (by decide) (by decide) he
  obtain ⟨⟨r1, r2, r3, r4, r5⟩, ⟨g1, g2, g3, g4⟩, ⟨c1, c2, c3, c4, c5, c6, c7⟩, ⟨l1, l2, l3, l4, l5⟩, ⟨o1, o2, o3, o4, o5, o6, o7⟩, ct⟩ := fr
  -- the class's ends
  have hcode : ∃ v, c_judgeEnds σ e = c_judgeEndsL e 2001 0 (cI σ e 10 v) ∧ v = c_mcheck μ 0 2 (n - 1) (if gg ≤ 0 then M else gg) := by
    have sc : c_segmentCount σ (e + 1) = n := by rw [← h24]; exact hp.1.1
    have jc : ∀ v, c_codeOfEnd σ e (c_reference σ e) (n - 1) v = c_mcheck μ 0 2 (n - 1) v := fun v => J_code hp (by omega) (by omega) (by omega) (by omega) (by omega)
    have l22 : ((σ.1 (e + 22)).length : Int) = gg := g1.1
    have l12 : ((σ.1 (e + 12)).length : Int) = M := r1.1
    unfold c_judgeEnds
    rw [sc]
    by_cases z : gg ≤ 0
    · rw [if_pos (show (σ.1 (e + 22)).length ≤ 0 by omega), jc, l12]; exact ⟨_, rfl, by rw [if_pos z]⟩
    · rw [if_neg (show ¬ (σ.1 (e + 22)).length ≤ 0 by omega), jc, l22]; exact ⟨_, rfl, by rw [if_neg z]⟩
  obtain ⟨v, hce, hv⟩ := hcode
  have je := je_run (μ := μ) (e := e) (N := N) (gg := gg) (a40 := μ.2 40) (a41 := μ.2 41) (cn := fun g => cntg (μ.2 36) g M.toNat) (fun g a b => by rw [h24]; exact o5 g a b) 2001 0 (cI σ e 10 v) hp g1 g2 ct g4 (by omega) c4 (by omega)
  rw [← hce] at je
  have ye : ∀ r, r ≠ e + 28 → (c_judgeEnds σ e).1 r = σ.1 r := fun r hr => y_judgeEnds (by simp [hr])
  have ze : ∀ p k, ¬ (p = e ∧ k = 10) → (c_judgeEnds σ e).2.1 p k = σ.2.1 p k := fun p k hpk => z_judgeEnds hpk
  have ke : (c_judgeEnds σ e).2.2 = σ.2.2 := k_judgeEnds
  have ve : (c_judgeEnds σ e).2.1 e 10 = v := by
    rw [hce]
    have q : ∀ (fu : Nat) (k : Int) (τ : cS), (c_judgeEndsL e fu k τ).2 = τ.2 := by
      intro fu
      induction fu with
      | zero => intro k τ; rfl
      | succ fu ih =>
        intro k τ
        rw [c_judgeEndsL]
        split
        · rfl
        · rw [ih]; rfl
    rw [q]; simp [cI, upI]
  -- the model's start
  have w2 : wfm (mu2 μ) := wfm_f (k := 1) (wfm_f (k := 23) hm (show (0 : Int) ≤ 1 ∧ 1 ≤ 1 by omega)) (show (0 : Int) ≤ 0 ∧ 0 ≤ 400 by omega)
  have pE : PartR (c_judgeEnds σ e) (mu2 μ) e N := PartR_cl (σ := σ) hp (fun r a b => ye r (by omega))
  have br : BR (c_judgeEnds σ e) (mu2 μ) e N M := by
    refine ⟨he, w2, pE, fun t t0 t1 => ?_, ⟨?_, ?_⟩, by omega, fun i a b => ?_⟩
    · have tt : 72 ≤ tb t := by unfold tb; omega
      exact TabR_congr (σ := σ) (μ := μ) (fun r b1 b2 => ye r (by omega)) (ze _ _ (by omega)) (ze _ _ (by omega)) (fun k b1 b2 => rfl) (hT t t0 t1)
    · rw [ye _ (by omega)]; exact r1
    · rw [ye _ (by omega)]; exact r2
    · have := o1 i a b
      exact ⟨this.1, this.2.1, by show mat (μ.2 35) i < μ.1 24; omega⟩
  have rj := rj_run 2002 0 (c_judgeEnds σ e) (mu2 μ) 21 br (by rw [ke]; exact hk) c1 (by rw [ye _ (by omega)]; exact r4) (by rw [ye _ (by omega)]; exact r5) (fun k a b => by omega) (Int.le_refl 0) c3 (by omega) (by omega)
  obtain ⟨fj, j18, j20, brJ, hpl⟩ := rj
  have ej : c_readI 2002 0 (c_judgeEnds σ e) = jdS σ e := rfl
  have em : c_mreadJ 21 0 (mu2 μ) = muJ μ := rfl
  rw [ej] at fj j18 j20 brJ
  rw [em] at j18 j20 brJ hpl
  have J1 : ∀ k, k ∉ ([43, 44, 45] : List Nat) → (muJ μ).1 k = (mu2 μ).1 k := fun k hk => g1_mreadJ hk
  have J2 : ∀ k, k ∉ ([46, 47, 37, 38] : List Nat) → (muJ μ).2 k = μ.2 k := fun k hk => g2_mreadJ hk
  have G1 : ∀ k, k ∉ ([99] : List Nat) → (muG μ).1 k = (muJ μ).1 k := fun k hk => g1_mreadG hk
  have G2 : ∀ k, k ∉ ([42] : List Nat) → (muG μ).2 k = (muJ μ).2 k := fun k hk => g2_mreadG hk
  have wJ : wfm (muJ μ) := brJ.2.1
  have wG : wfm (muG μ) := w_mreadG wJ 21 (by omega)
  have a24 : (muG μ).1 24 = n := by rw [G1 24 (by decide), J1 24 (by decide)]; exact h24
  have a33 : (muG μ).1 33 = M := by rw [G1 33 (by decide), J1 33 (by decide)]; exact c1
  have a39 : (muG μ).1 39 = gg := by rw [G1 39 (by decide), J1 39 (by decide)]; exact c2
  have b24 : (muJ μ).1 24 = n := by rw [J1 24 (by decide)]; exact h24
  have pJ := brJ.2.2.1
  have pG : PartR (jdS σ e) (muG μ) e N := PartR_mo pJ ⟨G1 24 (by decide), G1 27 (by decide), G1 29 (by decide)⟩ (fun k a b => G2 k (by simp; omega))
  have rowJ : ∀ r, r ≠ e + 18 → r ≠ e + 20 → r ≠ e + 28 → r < 72 → (jdS σ e).1 r = σ.1 r := fun r x y z w => (fj.1 r x y (Or.inl w)).trans (ye r z)
  have pS : PartR (jdS σ e) μ e N := PartR_cl hp (fun r a b => rowJ r (by omega) (by omega) (by omega) (by omega))
  have hM : M ≤ 19 := by omega
  have rg := rg_run (σ := jdS σ e) (e := e) (N := N) (gg := gg) (M := M) (by omega) (by omega) 21 0 (muJ μ) pJ (by rw [J1 39 (by decide)]; exact c2) (by rw [J1 33 (by decide)]; exact c1) c3 (fun g a b => by rw [J2 40 (by decide), J2 41 (by decide), b24]; exact o5 g a b) (wJ.ln (k := 42) (by decide)) (by omega) c4 (by omega)
  have P1 : ∀ k, k ≠ 32 → (muP μ).1 k = (muG μ).1 k := fun k hk => by unfold muP; simp [mfl, upF, hk]
  have P2 : (muP μ).2 = (muG μ).2 := rfl
  have P32 : (muP μ).1 32 = v := by
    have jg : ∀ w, c_mcheck (muG μ) 0 2 (n - 1) w = c_mcheck μ 0 2 (n - 1) w := fun w => (J_code pG (by omega) (by omega) (by omega) (by omega) (by omega)).symm.trans (J_code pS (by omega) (by omega) (by omega) (by omega) (by omega))
    show (if (muG μ).1 39 ≤ 0 then c_mcheck (muG μ) 0 2 ((muG μ).1 24 - 1) ((muG μ).1 33) else c_mcheck (muG μ) 0 2 ((muG μ).1 24 - 1) ((muG μ).1 39)) = v
    rw [a39, a24, a33, jg, jg, hv]
    by_cases z : gg ≤ 0
    · rw [if_pos z, if_pos z]
    · rw [if_neg z, if_neg z]
  have rv : 0 ≤ v ∧ v ≤ 3 := by
    have q := r_mcheck (σ := μ) (s := 0) (e := 2) (u := n - 1) (v := if gg ≤ 0 then M else gg) hm (by omega) (by omega) (by omega) (by split <;> exact ⟨by omega, by omega⟩)
    rw [hv]; omega
  have wP : wfm (muP μ) := by
    have q := wfm_f (k := 32) (v := v) wG (show (0 : Int) ≤ v ∧ v ≤ 3 from rv)
    have e9 : mfl (muG μ) 32 v = muP μ := by
      have : v = (if (muG μ).1 39 ≤ 0 then c_mcheck (muG μ) 0 2 ((muG μ).1 24 - 1) ((muG μ).1 33) else c_mcheck (muG μ) 0 2 ((muG μ).1 24 - 1) ((muG μ).1 39)) := by rw [← P32]; rfl
      rw [this]; rfl
    rw [← e9]; exact q
  have pP : PartR (jdS σ e) (muP μ) e N := PartR_mo pG ⟨rfl, rfl, rfl⟩ (fun k a b => rfl)
  have A2 : ∀ k, k ∉ ([46, 47, 37, 38, 42] : List Nat) → (muP μ).2 k = μ.2 k := fun k hk => by
    simp only [List.mem_cons, List.not_mem_nil, or_false, not_or] at hk
    rw [P2, G2 k (by simp [hk]), J2 k (by simp [hk])]
  refine ⟨wP, pP, fun t t0 t1 => ?_, ⟨?_, ?_, ?_, ?_, ?_, ?_, ⟨?_, c3, hM, c4, hg9⟩, ?_, ?_, ?_, ?_, ?_⟩, ?_, ?_, fun r hr => ?_, ?_, fun p k a b => ?_, fun k hk => ?_, ?_, ?_, A2, ?_⟩
  · exact TabR_congr (σ := jdS σ e) (μ := muJ μ) (fun r b1 b2 => rfl) rfl rfl (fun k b1 b2 => by rw [P2]; exact G2 k (by simp; omega)) (brJ.2.2.2.1 t t0 t1)
  · rw [rowJ _ (by omega) (by omega) (by omega) (by omega), A2 34 (by decide)]; exact r1
  · rw [rowJ _ (by omega) (by omega) (by omega) (by omega), A2 36 (by decide)]; exact r3
  · rw [P2, G2 37 (by decide)]; exact j18
  · rw [P2, G2 38 (by decide)]; exact j20
  · rw [rowJ _ (by omega) (by omega) (by omega) (by omega), A2 40 (by decide)]; exact g1
  · rw [fj.1 (e + 28) (by omega) (by omega) (Or.inl (by omega)), P2]
    refine ⟨je.1, fun g a b => ?_⟩
    rw [Int.zero_add]
    show rat ((c_judgeEnds σ e).1 (e + 28)) g = mat ((muG μ).2 42) g
    have o := o5 g a b
    have x1 := rg.2 g a b
    have x2 : mat ((muG μ).2 42) g = _ := x1
    rw [je.2.2 g a b, x2, J2 40 (by decide), J2 41 (by decide), J2 36 (by decide)]
    exact (J_code pS (by omega) (by omega) (by omega) (by omega) (by omega)).symm
  · rw [P1 33 (by decide)]; exact a33
  · rw [P2, G2 37 (by decide), G2 38 (by decide)]; exact hpl
  · rw [A2 34 (by decide), A2 35 (by decide), P1 24 (by decide), a24]
    intro i a b
    have := o1 i a b
    omega
  · rw [A2 34 (by decide), A2 35 (by decide), A2 36 (by decide)]; exact o2
  · rw [A2 34 (by decide), A2 36 (by decide), A2 40 (by decide)]
    intro i a b
    have := o3 i a b
    exact ⟨this.1, this.2.1, this.2.2.2⟩
  · rw [A2 35 (by decide), A2 36 (by decide), A2 40 (by decide)]; exact o4
  · rw [rowJ _ (by omega) (by omega) (by omega) (by omega), A2 35 (by decide)]; exact r2
  · rw [P32, fj.2.1 e 10 (by omega), ve]
  · exact rowJ r (by omega) (by omega) (by omega) (by omega)
  · rw [fj.2.2, ke]
  · rw [fj.2.1 p k (by omega)]; exact ze p k b
  · simp only [List.mem_cons, List.not_mem_nil, or_false, not_or] at hk
    rw [P1 k hk.2.2.2.1, G1 k (by simp [hk])]
    rw [J1 k (by simp [hk])]
    simp [mu2, mfl, upF, hk]
  · rw [P1 1 (by decide), G1 1 (by decide), J1 1 (by decide)]; rfl
  · rw [P1 23 (by decide), G1 23 (by decide), J1 23 (by decide)]; rfl
  · rw [P1 39 (by decide)]; exact a39
