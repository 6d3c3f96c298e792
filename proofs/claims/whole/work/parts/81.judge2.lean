/-! a message is judged -/
theorem note_1 {τ : cS} {e : Nat} {j cd pl : Int} (h0 : 0 ≤ j) : (c_note τ e j cd pl).1 (e + 18) = (τ.1 (e + 18)).set j.toNat cd ∧ (c_note τ e j cd pl).1 (e + 20) = (τ.1 (e + 20)).set j.toNat pl := by
  constructor <;> simp [c_note, cput, upR, h0]
theorem MR_set {σ : cS} {μ : mS} {t i v w : Int} (h : MR σ μ t) (hv : 0 ≤ v ∧ v ≤ 7) (hw : -1 ≤ w ∧ w ≤ 40) : MR σ (mar (mar μ 37 i v) 38 i w) t := by
  obtain ⟨tr, hm, q, hl, hi, hg, h1, h2⟩ := h
  exact ⟨TabR_congr (σ := σ) (μ := μ) (fun r a b => rfl) rfl rfl (fun k a b => by simp [mar, upF, show k ≠ 37 by omega, show k ≠ 38 by omega]) tr, wfm_a (k := 38) (wfm_a (k := 37) hm hv) hw, q, hl, hi, hg, h1, h2⟩
/-- what the model writes of message i: its code and place, and nothing else there -/
def WR (μ μ' : mS) (i cd pl : Int) : Prop := mat (μ'.2 37) i = cd ∧ mat (μ'.2 38) i = pl ∧ ∀ k, 0 ≤ k → k ≠ i → mat (μ'.2 37) k = mat (μ.2 37) k ∧ mat (μ'.2 38) k = mat (μ.2 38) k
theorem WR_set {μ X : mS} {i cd pl : Int} (h37 : ∀ k, 0 ≤ k → k ≠ i → mat (X.2 37) k = mat (μ.2 37) k) (h38 : ∀ k, 0 ≤ k → k ≠ i → mat (X.2 38) k = mat (μ.2 38) k) (l37 : (X.2 37).length = 20) (l38 : (X.2 38).length = 20) (hi : 0 ≤ i ∧ i ≤ 19) : WR μ (mar (mar X 37 i cd) 38 i pl) i cd pl := by
  refine ⟨?_, ?_, fun k k0 k1 => ⟨?_, ?_⟩⟩
  · show mat ((X.2 37).set i.toNat cd) i = cd; exact mat_set (by omega)
  · show mat ((X.2 38).set i.toNat pl) i = pl; exact mat_set (by omega)
  · show mat ((X.2 37).set i.toNat cd) k = _; rw [mat_set_ne (by omega)]; exact h37 k k0 k1
  · show mat ((X.2 38).set i.toNat pl) k = _; rw [mat_set_ne (by omega)]; exact h38 k k0 k1
theorem mm_run {e : Nat} {t j i x s0 : Int} (ht : 0 ≤ t ∧ t ≤ 3) (he : e ≤ 42) (hi : 0 ≤ i ∧ i ≤ 19) (hx : x ≤ 40) (fu : Nat) : ∀ (s : Int) (σ : cS) (μ : mS) (fu2 : Nat), MR σ μ t → (∀ k, s ≤ k → k < x → rat (σ.1 (e + 1 + 1)) k = mat (μ.2 25) k ∧ 0 < mat (μ.2 25) k) → 0 ≤ s → s ≤ x → x - s < (fu : Int) → x - s < (fu2 : Int) →
    ∃ (cd pl : Int) (τ : cS), c_matchMessageL e j (tb t) fu x s σ = c_note τ e j cd pl ∧ (∀ r, r < 72 → τ.1 r = σ.1 r) ∧ WR μ (c_mjudgeL2 i fu2 s0 x t s μ) i cd pl ∧ (cd = 0 ∨ 0 ≤ pl) := by
  have tt : 72 ≤ tb t := by unfold tb; omega
  induction fu with
  | zero => intro s σ μ fu2 _ _ _ _ h; omega
  | succ fu ih =>
    intro s σ μ fu2 h htg h0 h1 h2 h3
    cases fu2 with
    | zero => omega
    | succ fu2 =>
      have hw := h.2.1
      rw [c_matchMessageL, c_mjudgeL2]
      by_cases c : x ≤ s
      · rw [if_pos c, if_pos c]
        have en := endm_eq ht h
        have l37 : ((c_mlacks μ t).2.2 37).length = 20 := by rw [g2_mlacks (by decide)]; exact hw.ln (k := 37) (by decide)
        have l38 : ((c_mlacks μ t).2.2 38).length = 20 := by rw [g2_mlacks (by decide)]; exact hw.ln (k := 38) (by decide)
        have h37 : ∀ k, 0 ≤ k → k ≠ i → mat ((c_mlacks μ t).2.2 37) k = mat (μ.2 37) k := fun k _ _ => by rw [g2_mlacks (by decide)]
        have h38 : ∀ k, 0 ≤ k → k ≠ i → mat ((c_mlacks μ t).2.2 38) k = mat (μ.2 38) k := fun k _ _ => by rw [g2_mlacks (by decide)]
        have fr : ∀ r, r < 72 → (c_endMatch σ (tb t)).2.1 r = σ.1 r := fun r hr => y_endMatch (by simp; omega)
        by_cases d : (c_mlacks μ t).1 = true
        · rw [if_pos d] at en
          rw [if_pos d, en, if_neg (by decide)]
          exact ⟨5, x, _, rfl, fr, WR_set h37 h38 l37 l38 hi, Or.inr (by omega)⟩
        · rw [if_neg d] at en
          rw [if_neg d, en, if_pos rfl]
          exact ⟨0, -1, _, rfl, fr, WR_set h37 h38 l37 l38 hi, Or.inl rfl⟩
      · rw [if_neg c, if_neg c]
        have tg := htg s (Int.le_refl _) (by omega)
        have ct : c_tagOf σ (e + 1) s = mat (μ.2 25) s := tg.1
        have up := (hw.a25 s).2
        rw [ct]
        have me := match_eq ht tg.2 h
        have rc := r_mcomes (v := mat (μ.2 25) s) hw ht (by omega) h.2.2.1.1
        have l37 : ((c_mcomes μ t (mat (μ.2 25) s)).2.2 37).length = 20 := by rw [g2_mcomes (by decide)]; exact hw.ln (k := 37) (by decide)
        have l38 : ((c_mcomes μ t (mat (μ.2 25) s)).2.2 38).length = 20 := by rw [g2_mcomes (by decide)]; exact hw.ln (k := 38) (by decide)
        have h37 : ∀ k, 0 ≤ k → k ≠ i → mat ((c_mcomes μ t (mat (μ.2 25) s)).2.2 37) k = mat (μ.2 37) k := fun k _ _ => by rw [g2_mcomes (by decide)]
        have h38 : ∀ k, 0 ≤ k → k ≠ i → mat ((c_mcomes μ t (mat (μ.2 25) s)).2.2 38) k = mat (μ.2 38) k := fun k _ _ => by rw [g2_mcomes (by decide)]
        have fr : ∀ r, r < 72 → (c_tmatch σ (tb t) (mat (μ.2 25) s)).2.1 r = σ.1 r := fun r hr => y_tmatch (by simp; omega)
        have cm : mat ((mar (c_mcomes μ t (mat (μ.2 25) s)).2 37 i ((c_mcomes μ t (mat (μ.2 25) s)).1)).2 37) i = (c_mcomes μ t (mat (μ.2 25) s)).1 := by
          show mat (((c_mcomes μ t (mat (μ.2 25) s)).2.2 37).set i.toNat _) i = _; exact mat_set (by omega)
        have wr := WR_set (cd := (c_mcomes μ t (mat (μ.2 25) s)).1) (pl := s) h37 h38 l37 l38 hi
        rw [cm, me.1]
        by_cases d : (c_mcomes μ t (mat (μ.2 25) s)).1 = 0
        · rw [if_pos d, if_pos (by omega)]
          have mr := MR_set (i := i) (v := (c_mcomes μ t (mat (μ.2 25) s)).1) (w := s) (me.2 d) (by omega) (by omega)
          have a25 : (mar (mar (c_mcomes μ t (mat (μ.2 25) s)).2 37 i ((c_mcomes μ t (mat (μ.2 25) s)).1)) 38 i s).2 25 = μ.2 25 := by
            show (c_mcomes μ t (mat (μ.2 25) s)).2.2 25 = μ.2 25
            exact g2_mcomes (by decide)
          obtain ⟨cd, pl, τ, q1, q2, q3, q4⟩ := ih (s + 1) _ _ fu2 mr (fun k k0 k1 => by
            rw [a25, fr (e + 1 + 1) (by omega)]; exact htg k (by omega) k1) (by omega) (by omega) (by omega) (by omega)
          refine ⟨cd, pl, τ, q1, fun r hr => (q2 r hr).trans (fr r hr), ⟨q3.1, q3.2.1, fun k k0 k1 => ?_⟩, q4⟩
          have a := q3.2.2 k k0 k1
          have b := wr.2.2 k k0 k1
          exact ⟨a.1.trans b.1, a.2.trans b.2⟩
        · rw [if_neg d, if_neg (by omega)]
          exact ⟨_, s, _, rfl, fr, wr, Or.inr h0⟩
def BR (σ : cS) (μ : mS) (e : Nat) (N M : Int) : Prop := kd e = 0 ∧ wfm μ ∧ PartR σ μ e N ∧ (∀ t, 0 ≤ t → t ≤ 3 → TabR σ μ t) ∧ (rowIs (σ.1 (e + 12)) (μ.2 34) 0 M ∧ rowIs (σ.1 (e + 14)) (μ.2 35) 0 M) ∧ M ≤ 19 ∧ (∀ i, 0 ≤ i → i < M → 1 ≤ mat (μ.2 34) i ∧ mat (μ.2 34) i < mat (μ.2 35) i ∧ mat (μ.2 35) i < μ.1 24)
section BRs
variable {σ : cS} {μ : mS} {e : Nat} {N M : Int}
theorem BR.ref (h : BR σ μ e N M) {k : Int} (h0 : 0 ≤ k) (h1 : k < M) : c_referenceOfMessage σ e k = c_mcomponent μ (mat (μ.2 34) k) 0 ∧ cOK μ (c_mcomponent μ (mat (μ.2 34) k) 0) := by
  have o := h.2.2.2.2.2.2 k h0 h1
  unfold c_referenceOfMessage
  rw [h.2.2.2.2.1.1.in h0 h1]
  exact J_comp h.2.2.1 (by omega) (by omega) (Int.le_refl 0)
/-- the model's tail of judge: the table -/
def TAIL (i s e : Int) (μ : mS) : mS := (if 0 ≤ (c_mtypeOf μ i) then (c_mjudgeL2 i (41) s e (c_mtypeOf μ i) (s + 1) (mfl (mfl (mfl μ 45 0) 44 0) 43 (c_mfollowing (mfl (mfl μ 45 0) 44 0) (c_mtypeOf μ i) (-1) (-1)))) else (mar μ 37 i 3))
theorem rep_run (h : BR σ μ e N M) {i x : Int} (hi : 0 ≤ i) (hM : i < M) (fu : Nat) : ∀ (k : Int) (fu2 : Nat), 0 ≤ k → k ≤ i → i - k < (fu : Int) → i - k < (fu2 : Int) → c_mjudgeL1 i fu2 (mat (μ.2 34) i) x k μ = if c_isRepeatedL e i fu k σ = true then mar μ 37 i 7 else TAIL i (mat (μ.2 34) i) x μ := by
  induction fu with
  | zero => intro k fu2 _ _ h; omega
  | succ fu ih =>
    intro k fu2 h0 h1 h2 h3
    cases fu2 with
    | zero => omega
    | succ fu2 =>
      rw [c_mjudgeL1, c_isRepeatedL]
      by_cases c : i ≤ k
      · rw [if_pos c, if_pos c, if_neg (show ¬ false = true by decide)]; rfl
      · rw [if_neg c, if_neg c]
        obtain ⟨a1, a2⟩ := h.ref h0 (show k < M by omega)
        obtain ⟨b1, b2⟩ := h.ref hi hM
        rw [a1, b1]
        have js := J_same h.2.2.1 a2 b2
        have sr := size_r h.2.2.1 a2
        have ms := msame_iff (μ := μ) (a := c_mcomponent μ (mat (μ.2 34) k) 0) (b := c_mcomponent μ (mat (μ.2 34) i) 0) ⟨sr.1, by omega⟩
        by_cases d : sameP μ (c_mcomponent μ (mat (μ.2 34) k) 0) (c_mcomponent μ (mat (μ.2 34) i) 0)
        · rw [if_pos (ms.mpr d), if_pos (js.mpr d), if_pos rfl]
        · rw [if_neg (fun z => d (ms.mp z)), if_neg (fun z => d (js.mp z))]
          exact ih (k + 1) fu2 (by omega) (by omega) (by omega) (by omega)
end BRs
