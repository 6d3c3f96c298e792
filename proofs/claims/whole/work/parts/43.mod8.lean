abbrev mi (σ : mS) (t a : Int) : Int := mat (σ.2 7) ((24 * t) + a)
def mtop (σ : mS) (j : Int) : Int := if j = 0 then -1 else mat (σ.2 46) (j - 1)
/-- a group stands in no more than two others -/
def mT (σ : mS) (t : Int) : Prop := ∀ a, 0 ≤ a → a < mat (σ.2 3) t → mat (σ.2 4) ((24 * t) + a) = 0 → mi σ t a < 0 ∨ mi σ t (mi σ t a) < 0 ∨ mi σ t (mi σ t (mi σ t a)) < 0
def mQ (σ : mS) (t : Int) : Prop := mH σ t ∧ mT σ t ∧ (0 ≤ σ.1 43 → σ.1 43 < mat (σ.2 3) t ∧ mi σ t (σ.1 43) = mtop σ (σ.1 45)) ∧ ∀ j, 0 ≤ j → j < σ.1 45 → 0 ≤ mat (σ.2 46) j ∧ mat (σ.2 46) j < mat (σ.2 3) t ∧ mi σ t (mat (σ.2 46) j) = mtop σ j
theorem fo_L2 {σ : mS} {t k g : Int} (hi : mat (σ.2 3) t ≤ 24) (fu : Nat) (x : Int) (hx : x ≤ 24) (hm : 24 - x < (fu : Int)) : c_mfollowingL t k g fu x σ = -1 ∨ (x ≤ c_mfollowingL t k g fu x σ ∧ c_mfollowingL t k g fu x σ < mat (σ.2 3) t ∧ mat (σ.2 7) ((24 * t) + c_mfollowingL t k g fu x σ) = g) := by
  induction fu generalizing x with
  | zero => exact absurd hm (by omega)
  | succ fu ih =>
    unfold c_mfollowingL
    split
    · exact Or.inl rfl
    · split
      · rename_i h1 h2
        exact Or.inr ⟨Int.le_refl _, by omega, h2⟩
      · rcases ih (x + 1) (by omega) (by omega) with h | h
        · exact Or.inl h
        · exact Or.inr ⟨by omega, h.2⟩
theorem fo_spec {σ : mS} {t k g : Int} (hw : wfm σ) (hk : -1 ≤ k ∧ k ≤ 23) : c_mfollowing σ t k g = -1 ∨ (k < c_mfollowing σ t k g ∧ c_mfollowing σ t k g < mat (σ.2 3) t ∧ mi σ t (c_mfollowing σ t k g) = g) := by
  have h3 := hw.a3 t
  rcases fo_L2 (σ := σ) (t := t) (k := k) (g := g) h3.2 25 (k + 1) (by omega) (by omega) with h | h
  · exact Or.inl h
  · exact Or.inr ⟨by unfold c_mfollowing; omega, h.2⟩
theorem fo_cL {σ τ : mS} {t k g : Int} (h3 : σ.2 3 = τ.2 3) (h7 : σ.2 7 = τ.2 7) (fu : Nat) (x : Int) : c_mfollowingL t k g fu x σ = c_mfollowingL t k g fu x τ := by
  induction fu generalizing x with
  | zero => rfl
  | succ fu ih => unfold c_mfollowingL; rw [h3, h7, ih]
theorem fo_congr {σ τ : mS} {t k g : Int} (h3 : σ.2 3 = τ.2 3) (h7 : σ.2 7 = τ.2 7) : c_mfollowing σ t k g = c_mfollowing τ t k g := fo_cL h3 h7 _ _
theorem mQ_go {σ : mS} {t : Int} (hw : wfm σ) (h : mQ σ t) : mQ (c_mgoOn σ t) t := by
  obtain ⟨h1, h2, h3, h4⟩ := h
  have g43 := hw.f43
  have e45 : (c_mgoOn σ t).1 45 = σ.1 45 := mgo_45
  have e2 : (c_mgoOn σ t).2 = σ.2 := mgo_2
  have top : ∀ j, mtop (c_mgoOn σ t) j = mtop σ j := fun j => by unfold mtop; rw [e2]
  refine ⟨mH_go hw h1, ?_, ?_, ?_⟩
  · intro a; unfold mi; rw [e2]; exact h2 a
  · rw [e45, top]; unfold mi; rw [e2]
    unfold c_mgoOn
    split
    · rename_i c
      show 0 ≤ c_mfollowing σ t (σ.1 43) (-1) → c_mfollowing σ t (σ.1 43) (-1) < mat (σ.2 3) t ∧ mi σ t (c_mfollowing σ t (σ.1 43) (-1)) = mtop σ (σ.1 45)
      intro q
      rcases fo_spec hw g43 (t := t) (g := -1) with x | x
      · omega
      · exact ⟨x.2.1, by rw [x.2.2]; unfold mtop; rw [if_pos c]⟩
    · rename_i c
      show 0 ≤ c_mfollowing σ t (σ.1 43) (mat (σ.2 46) (σ.1 45 - 1)) → c_mfollowing σ t (σ.1 43) (mat (σ.2 46) (σ.1 45 - 1)) < mat (σ.2 3) t ∧ mi σ t (c_mfollowing σ t (σ.1 43) (mat (σ.2 46) (σ.1 45 - 1))) = mtop σ (σ.1 45)
      intro q
      rcases fo_spec hw g43 (t := t) (g := mat (σ.2 46) (σ.1 45 - 1)) with x | x
      · omega
      · exact ⟨x.2.1, by rw [x.2.2]; unfold mtop; rw [if_neg c]⟩
  · intro j q0 q1
    rw [e45] at q1
    rw [top]; unfold mi; rw [e2]
    exact h4 j q0 q1
theorem mQ_pop {σ : mS} {t : Int} (h : mQ σ t) (h0 : 0 < σ.1 45) : mQ (mfl (mfl (mfl σ 45 (σ.1 45 - 1)) 43 (mat (σ.2 46) (σ.1 45 - 1))) 44 (mat (σ.2 47) (σ.1 45 - 1))) t := by
  obtain ⟨h1, h2, h3, h4⟩ := h
  refine ⟨mH_pop h1 h0, h2, fun _ => ?_, fun j q0 q1 => ?_⟩
  · exact (h4 (σ.1 45 - 1) (by omega) (by omega)).2
  · exact h4 j q0 (by have : j < σ.1 45 - 1 := q1; omega)
theorem mQ_had {σ : mS} {t : Int} (h : mQ σ t) (h0 : 0 ≤ σ.1 43) (hn : ¬ σ.1 44 = mat (σ.2 6) ((24 * t) + σ.1 43)) : mQ (mfl σ 44 (σ.1 44 + 1)) t := by
  obtain ⟨⟨a1, a2, a3⟩, h2, h3, h4⟩ := h
  refine ⟨⟨a1, fun q => ?_, a3⟩, h2, h3, h4⟩
  have := a2 h0
  show σ.1 44 + 1 ≤ mat (σ.2 6) ((24 * t) + σ.1 43)
  omega
theorem wfm.l46 {σ : mS} (hw : wfm σ) : (σ.2 46).length = 4 := hw.len (k := 46) (by decide)
theorem wfm.l47 {σ : mS} (hw : wfm σ) : (σ.2 47).length = 4 := hw.len (k := 47) (by decide)
theorem mQ_push {σ : mS} {t r : Int} (hw : wfm σ) (h : mQ σ t) (h0 : 0 ≤ σ.1 43) (hn : ¬ σ.1 44 = mat (σ.2 6) ((24 * t) + σ.1 43)) (hg : mat (σ.2 4) ((24 * t) + σ.1 43) = 0) (hr : 0 ≤ r → r < mat (σ.2 3) t ∧ mi σ t r = σ.1 43) :
    mQ (mfl (mfl (mfl (mar (mar (mfl σ 44 (σ.1 44 + 1)) 46 (σ.1 45) (σ.1 43)) 47 (σ.1 45) (σ.1 44 + 1)) 45 (σ.1 45 + 1)) 43 r) 44 0) t := by
  obtain ⟨⟨a1, a2, a3⟩, h2, h3, h4⟩ := h
  have g45 := hw.f45
  have l46 := hw.l46
  have l47 := hw.l47
  have hs := h3 h0
  have hh := a2 h0
  have deep2 : σ.1 45 ≤ 2 := by
    rcases Int.lt_or_le (σ.1 45) 3 with q | q
    · omega
    · exfalso
      have e3 : σ.1 45 = 3 := by omega
      have c1 := hs.2
      have c2 := h4 2 (by omega) (by omega)
      have c3 := h4 1 (by omega) (by omega)
      have c4 := h4 0 (by omega) (by omega)
      rw [e3] at c1
      have d1 : mtop σ 3 = mat (σ.2 46) 2 := rfl
      have d2 : mtop σ 2 = mat (σ.2 46) 1 := rfl
      have d3 : mtop σ 1 = mat (σ.2 46) 0 := rfl
      rw [d1] at c1
      rw [d2] at c2
      rw [d3] at c3
      rcases h2 (σ.1 43) h0 hs.1 hg with x | x | x
      · rw [c1] at x; omega
      · rw [c1, c2.2.2] at x; omega
      · rw [c1, c2.2.2, c3.2.2] at x; omega
  have s46 : mat ((σ.2 46).set (σ.1 45).toNat (σ.1 43)) (σ.1 45) = σ.1 43 := mat_set (by omega)
  have s47 : mat ((σ.2 47).set (σ.1 45).toNat (σ.1 44 + 1)) (σ.1 45) = σ.1 44 + 1 := mat_set (by omega)
  have n46 : ∀ j, 0 ≤ j → j < σ.1 45 → mat ((σ.2 46).set (σ.1 45).toNat (σ.1 43)) j = mat (σ.2 46) j := fun j q0 q1 => mat_set_ne (by omega)
  have n47 : ∀ j, 0 ≤ j → j < σ.1 45 → mat ((σ.2 47).set (σ.1 45).toNat (σ.1 44 + 1)) j = mat (σ.2 47) j := fun j q0 q1 => mat_set_ne (by omega)
  have topn : ∀ j, 0 ≤ j → j ≤ σ.1 45 → (if j = 0 then -1 else mat ((σ.2 46).set (σ.1 45).toNat (σ.1 43)) (j - 1)) = mtop σ j := fun j q0 q1 => by
    unfold mtop
    split
    · rfl
    · exact n46 (j - 1) (by omega) (by omega)
  refine ⟨⟨?_, fun _ => ?_, fun j q0 q1 => ?_⟩, h2, fun q => ?_, fun j q0 q1 => ?_⟩
  · show σ.1 45 + 1 ≤ 3; omega
  · exact (hw.a6 _).1
  · show mat ((σ.2 47).set (σ.1 45).toNat (σ.1 44 + 1)) j ≤ mat (σ.2 6) ((24 * t) + mat ((σ.2 46).set (σ.1 45).toNat (σ.1 43)) j)
    have q1 : j < σ.1 45 + 1 := q1
    by_cases e : j = σ.1 45
    · subst e; rw [s46, s47]; omega
    · rw [n46 j q0 (by omega), n47 j q0 (by omega)]; exact a3 j q0 (by omega)
  · have hr2 := hr q
    refine ⟨hr2.1, ?_⟩
    show mi σ t r = if σ.1 45 + 1 = 0 then -1 else mat ((σ.2 46).set (σ.1 45).toNat (σ.1 43)) (σ.1 45 + 1 - 1)
    rw [if_neg (by omega), Int.add_sub_cancel, s46]; exact hr2.2
  · show 0 ≤ mat ((σ.2 46).set (σ.1 45).toNat (σ.1 43)) j ∧ mat ((σ.2 46).set (σ.1 45).toNat (σ.1 43)) j < mat (σ.2 3) t ∧ mi σ t (mat ((σ.2 46).set (σ.1 45).toNat (σ.1 43)) j) = if j = 0 then -1 else mat ((σ.2 46).set (σ.1 45).toNat (σ.1 43)) (j - 1)
    have q1 : j < σ.1 45 + 1 := q1
    rw [topn j q0 (by omega)]
    by_cases e : j = σ.1 45
    · subst e; rw [s46]; exact ⟨h0, hs.1, hs.2⟩
    · rw [n46 j q0 (by omega)]; exact h4 j q0 (by omega)
theorem q_mcomesL {t v : Int} (ht : 0 ≤ t ∧ t ≤ 3) (fu : Nat) (n : Int) (σ : mS) (hw : wfm σ) (h : mQ σ t) : mQ (c_mcomesL t v fu n σ).2 t := by
  induction fu generalizing n σ with
  | zero => exact h
  | succ fu ih =>
    have g45 := hw.f45
    have g43 := hw.f43
    unfold c_mcomesL
    split
    · exact h
    split
    · rename_i h43
      split
      · split
        · exact h
        · rename_i hn
          split
          · rename_i hg
            refine mQ_push hw h h43 hn hg (fun q => ?_)
            have fc : ∀ k g, c_mfollowing (mfl (mar (mar (mfl σ 44 (σ.1 44 + 1)) 46 (σ.1 45) (σ.1 43)) 47 (σ.1 45) (σ.1 44 + 1)) 45 (σ.1 45 + 1)) t k g = c_mfollowing σ t k g := fun k g => fo_congr rfl rfl
            rw [fc, fc] at q ⊢
            have r1 := r_mfollowing (σ := σ) (t := t) (k := -1) (g := σ.1 43) hw ht (by omega) (by omega)
            rcases fo_spec hw (t := t) (k := c_mfollowing σ t (-1) (σ.1 43)) (g := σ.1 43) (by omega) with x | x
            · omega
            · exact x.2
          · exact mQ_had h h43 hn
      · split
        · exact ih _ _ (w_mgoOn hw ht) (mQ_go hw h)
        · split
          · exact h
          · exact ih _ _ (w_mgoOn hw ht) (mQ_go hw h)
    · split
      · exact h
      · refine ih _ _ ?_ (mQ_pop h (by omega))
        have e1 := hw.a46 (σ.1 45 - 1)
        have e2 := hw.a47 (σ.1 45 - 1)
        exact wfm_f (k := 44) (wfm_f (k := 43) (wfm_f (k := 45) hw (show (0 : Int) ≤ _ ∧ _ ≤ 4 by omega)) (show (-1 : Int) ≤ _ ∧ _ ≤ 23 by omega)) (show (0 : Int) ≤ _ ∧ _ ≤ 99 by omega)
theorem q_mcomes {t v : Int} {σ : mS} (ht : 0 ≤ t ∧ t ≤ 3) (hw : wfm σ) (h : mQ σ t) : mQ (c_mcomes σ t v).2 t := q_mcomesL ht _ _ _ hw h
theorem mQ_init {σ : mS} {t : Int} (hw : wfm σ) (h : mT σ t) : mQ (mfl (mfl (mfl σ 45 0) 44 0) 43 (c_mfollowing (mfl (mfl σ 45 0) 44 0) t (-1) (-1))) t := by
  refine ⟨⟨by show (0 : Int) ≤ 3; omega, fun _ => (hw.a6 _).1, fun j q0 q1 => absurd (show j < 0 from q1) (by omega)⟩, h, fun q => ?_, fun j q0 q1 => absurd (show j < 0 from q1) (by omega)⟩
  have fc : c_mfollowing (mfl (mfl σ 45 0) 44 0) t (-1) (-1) = c_mfollowing σ t (-1) (-1) := fo_congr rfl rfl
  have q : 0 ≤ c_mfollowing (mfl (mfl σ 45 0) 44 0) t (-1) (-1) := q
  show c_mfollowing (mfl (mfl σ 45 0) 44 0) t (-1) (-1) < mat (σ.2 3) t ∧ mi σ t (c_mfollowing (mfl (mfl σ 45 0) 44 0) t (-1) (-1)) = -1
  rw [fc] at q ⊢
  rcases fo_spec hw (t := t) (k := -1) (g := -1) (by omega) with x | x
  · omega
  · exact x.2
def c_mjudgeL2 (i : Int) : Nat → Int → Int → Int → Int → mS → mS
  | 0, _, _, _, _, σ => σ
  | fu + 1, s, e, t, k, σ => (if e ≤ k then (if (c_mlacks σ t).1 = true then (mar (mar (c_mlacks σ t).2 37 i 5) 38 i e) else (mar (mar (c_mlacks σ t).2 37 i 0) 38 i (-1))) else (if (mat ((mar (c_mcomes σ t (mat (σ.2 25) k)).2 37 i ((c_mcomes σ t (mat (σ.2 25) k)).1)).2 37) i) ≤ 0 then (c_mjudgeL2 i fu s e t (k + 1) (mar (mar (c_mcomes σ t (mat (σ.2 25) k)).2 37 i ((c_mcomes σ t (mat (σ.2 25) k)).1)) 38 i k)) else (mar (mar (c_mcomes σ t (mat (σ.2 25) k)).2 37 i ((c_mcomes σ t (mat (σ.2 25) k)).1)) 38 i k)))
def c_mjudgeL1 (i : Int) : Nat → Int → Int → Int → mS → mS
  | 0, _, _, _, σ => σ
  | fu + 1, s, e, j, σ => (if i ≤ j then (if 0 ≤ (c_mtypeOf σ i) then (c_mjudgeL2 i (41) s e (c_mtypeOf σ i) (s + 1) (mfl (mfl (mfl σ 45 0) 44 0) 43 (c_mfollowing (mfl (mfl σ 45 0) 44 0) (c_mtypeOf σ i) (-1) (-1)))) else (mar σ 37 i 3)) else (if (c_msame σ (c_mcomponent σ (mat (σ.2 34) j) 0) (c_mcomponent σ s 0)) = true then (mar σ 37 i 7) else (c_mjudgeL1 i fu s e (j + 1) σ)))
def c_mjudge (σ : mS) (i : Int) : mS := (if ((c_mcheck σ (mat (σ.2 34) i) 0 (mat (σ.2 35) i) (((mat (σ.2 35) i) - (mat (σ.2 34) i)) + 1)) % 2) = 1 then (if (c_mcheck σ (mat (σ.2 34) i) 0 (mat (σ.2 35) i) (((mat (σ.2 35) i) - (mat (σ.2 34) i)) + 1)) ≤ 0 then (c_mjudgeL1 i (20) (mat (σ.2 34) i) (mat (σ.2 35) i) 0 (mar (mar (mar σ 37 i 1) 38 i (mat (σ.2 35) i)) 38 i (mat (σ.2 34) i))) else (mar (mar σ 37 i 1) 38 i (mat (σ.2 35) i))) else (if (c_mcheck σ (mat (σ.2 34) i) 0 (mat (σ.2 35) i) (((mat (σ.2 35) i) - (mat (σ.2 34) i)) + 1)) ≤ 0 then (c_mjudgeL1 i (20) (mat (σ.2 34) i) (mat (σ.2 35) i) 0 (mar (mar (mar σ 37 i (c_mcheck σ (mat (σ.2 34) i) 0 (mat (σ.2 35) i) (((mat (σ.2 35) i) - (mat (σ.2 34) i)) + 1))) 38 i (mat (σ.2 35) i)) 38 i (mat (σ.2 34) i))) else (mar (mar σ 37 i (c_mcheck σ (mat (σ.2 34) i) 0 (mat (σ.2 35) i) (((mat (σ.2 35) i) - (mat (σ.2 34) i)) + 1))) 38 i (mat (σ.2 35) i))))
theorem t_mjudgeL2 {l : Launch} {G : jG} {d : Nat} {σ : mS} {i : Int} {s e t k : Int} (hw : wfm σ) (hd : 3 ≤ d) (hi : 0 ≤ i ∧ i ≤ 19) (fu : Nat) (hs : 0 ≤ s ∧ s ≤ 40) (he : 0 ≤ e ∧ e ≤ 40) (ht : 0 ≤ t ∧ t ≤ 3) (hk : 1 ≤ k ∧ k ≤ 41) (hQ : mQ σ t) (hm : 41 - k < (fu : Int)) : CJ jMod mown l G (Yx mX7_judge) d 0 0 164 [some (.ref 116), some (vi i), some (vi s), some (vi e), none, some (vi t), some (vi k)] [] σ (det none (c_mjudgeL2 i fu s e t k σ)) := by
  induction fu generalizing σ s e t k with
  | zero => have hq := hQ.1; exact absurd hm (by omega)
  | succ fu ih =>
    have hq := hQ.1
    refine C_iload dX7_judge_164 rfl ?_
    refine C_iload_n dX7_judge_166 rfl ?_
    refine C_icmp_ge (tgt := 213) dX7_judge_167 (by decide) (by omega) (by omega) (fun c_167 => ?_) (fun c_167 => ?_)
    · refine C_aload_n dX7_judge_213 rfl ?_
      refine C_iload dX7_judge_214 rfl ?_
      refine D_callV (As := [vi _]) (d' := 2) (t_mlacks hw (Nat.le_refl _) (by omega) hq) dX7_judge_216 v_X7_240 (fun h hc => ⟨_, hc.1⟩) rfl (Nat.le_of_ble_eq_true rfl) (by omega) (Nat.le_of_ble_eq_true rfl) ?_
      simp only [Option.toList, List.nil_append, List.cons_append]
      have hw2 : wfm (c_mlacks σ t).2 := w_mlacks hw (by omega) hq
      refine C_istore dX7_judge_219 (by decide) rfl ?_
      simp only [List.set_cons_zero, List.set_cons_succ, jfin0, jfin1, jfin2, jfin3]
      refine C_aload_n dX7_judge_221 rfl ?_
      refine C_get (v := .ref 137) dX7_judge_222 f_X7_75 (fun h hc => ⟨_, hc.1, rfl⟩) ?_
      refine C_iload_n dX7_judge_225 rfl ?_
      refine C_iload dX7_judge_226 rfl ?_
      refine C_if_eqZ (tgt := 235) dX7_judge_228 (by decide) (fun c_228 => ?_) (fun c_228 => ?_)
      · refine C_iconst dX7_judge_235 ?_
        refine C_iast (σ' := (mar (c_mlacks σ t).2 37 i 0)) dX7_judge_236 (by omega) (by omega) mo37 (fun h hc => hc.st37 hw2 (by omega) (by omega)) ?_
        have hw4 : wfm (mar (c_mlacks σ t).2 37 i 0) := wfm_a (k := 37) hw2 (show (0 : Int) ≤ 0 ∧ 0 ≤ 7 by omega)
        refine C_aload_n dX7_judge_237 rfl ?_
        refine C_get (v := .ref 138) dX7_judge_238 f_X7_78 (fun h hc => ⟨_, hc.1, rfl⟩) ?_
        refine C_iload_n dX7_judge_241 rfl ?_
        refine C_iload dX7_judge_242 rfl ?_
        refine C_if_eqZ (tgt := 251) dX7_judge_244 (by decide) (fun c_244 => ?_) (fun c_244 => absurd c_244 (by rw [c_228]; decide))
        refine C_iconst dX7_judge_251 ?_
        refine C_iast (σ' := (mar (mar (c_mlacks σ t).2 37 i 0) 38 i (-1))) dX7_judge_252 (by omega) (by omega) mo38 (fun h hc => hc.st38 hw4 (by omega) (by omega)) ?_
        have hw6 : wfm (mar (mar (c_mlacks σ t).2 37 i 0) 38 i (-1)) := wfm_a (k := 38) hw4 (show (-1 : Int) ≤ (-1) ∧ (-1) ≤ 40 by omega)
        refine C_vret dX7_judge_253 rfl ⟨rfl, ?_⟩
        rw [c_mjudgeL2, if_pos (by omega), if_neg (by rw [c_228]; decide)]
      · refine C_iconst dX7_judge_231 ?_
        refine C_goto (tgt := 236) dX7_judge_232 (by decide) ?_
        refine C_iast (σ' := (mar (c_mlacks σ t).2 37 i 5)) dX7_judge_236 (by omega) (by omega) mo37 (fun h hc => hc.st37 hw2 (by omega) (by omega)) ?_
        have hw7 : wfm (mar (c_mlacks σ t).2 37 i 5) := wfm_a (k := 37) hw2 (show (0 : Int) ≤ 5 ∧ 5 ≤ 7 by omega)
        refine C_aload_n dX7_judge_237 rfl ?_
        refine C_get (v := .ref 138) dX7_judge_238 f_X7_78 (fun h hc => ⟨_, hc.1, rfl⟩) ?_
        refine C_iload_n dX7_judge_241 rfl ?_
        refine C_iload dX7_judge_242 rfl ?_
        refine C_if_eqZ (tgt := 251) dX7_judge_244 (by decide) (fun c_244 => absurd c_244 (by rw [c_228]; decide)) (fun c_244 => ?_)
        refine C_iload_n dX7_judge_247 rfl ?_
        refine C_goto (tgt := 252) dX7_judge_248 (by decide) ?_
        refine C_iast (σ' := (mar (mar (c_mlacks σ t).2 37 i 5) 38 i e)) dX7_judge_252 (by omega) (by omega) mo38 (fun h hc => hc.st38 hw7 (by omega) (by omega)) ?_
        have hw9 : wfm (mar (mar (c_mlacks σ t).2 37 i 5) 38 i e) := wfm_a (k := 38) hw7 (show (-1 : Int) ≤ e ∧ e ≤ 40 by omega)
        refine C_vret dX7_judge_253 rfl ⟨rfl, ?_⟩
        rw [c_mjudgeL2, if_pos (by omega), if_pos c_228]
    · refine C_aload_n dX7_judge_170 rfl ?_
      refine C_get (v := .ref 137) dX7_judge_171 f_X7_75 (fun h hc => ⟨_, hc.1, rfl⟩) ?_
      refine C_iload_n dX7_judge_174 rfl ?_
      refine C_aload_n dX7_judge_175 rfl ?_
      refine C_iload dX7_judge_176 rfl ?_
      refine C_aload_n dX7_judge_178 rfl ?_
      refine C_get (v := .ref 129) dX7_judge_179 f_X7_51 (fun h hc => ⟨_, hc.1, rfl⟩) ?_
      refine C_iload dX7_judge_182 rfl ?_
      refine C_iald (v := vi (mat (σ.2 25) k)) dX7_judge_184 (by omega) (by omega) (fun h hc => hc.rd25 hw (by omega) (by omega)) ?_
      have e_184 := hw.a25 k
      refine D_callV (As := [vi _, vi _]) (d' := 2) (t_mcomes hw (Nat.le_refl _) (by omega) (by omega) hq) dX7_judge_185 v_X7_237 (fun h hc => ⟨_, hc.1⟩) rfl (Nat.le_of_ble_eq_true rfl) (by omega) (Nat.le_of_ble_eq_true rfl) ?_
      simp only [Option.toList, List.nil_append, List.cons_append]
      have hw10 : wfm (c_mcomes σ t (mat (σ.2 25) k)).2 := w_mcomes hw (by omega) (by omega) hq
      have r_185 := r_mcomes (t := t) (v := (mat (σ.2 25) k)) hw (by omega) (by omega) hq
      refine C_iast (σ' := (mar (c_mcomes σ t (mat (σ.2 25) k)).2 37 i ((c_mcomes σ t (mat (σ.2 25) k)).1))) dX7_judge_188 (by omega) (by omega) mo37 (fun h hc => hc.st37 hw10 (by omega) (by omega)) ?_
      have hw11 : wfm (mar (c_mcomes σ t (mat (σ.2 25) k)).2 37 i ((c_mcomes σ t (mat (σ.2 25) k)).1)) := wfm_a (k := 37) hw10 (show (0 : Int) ≤ (c_mcomes σ t (mat (σ.2 25) k)).1 ∧ (c_mcomes σ t (mat (σ.2 25) k)).1 ≤ 7 by omega)
      refine C_aload_n dX7_judge_189 rfl ?_
      refine C_get (v := .ref 138) dX7_judge_190 f_X7_78 (fun h hc => ⟨_, hc.1, rfl⟩) ?_
      refine C_iload_n dX7_judge_193 rfl ?_
      refine C_iload dX7_judge_194 rfl ?_
      refine C_iast (σ' := (mar (mar (c_mcomes σ t (mat (σ.2 25) k)).2 37 i ((c_mcomes σ t (mat (σ.2 25) k)).1)) 38 i k)) dX7_judge_196 (by omega) (by omega) mo38 (fun h hc => hc.st38 hw11 (by omega) (by omega)) ?_
      have hw12 : wfm (mar (mar (c_mcomes σ t (mat (σ.2 25) k)).2 37 i ((c_mcomes σ t (mat (σ.2 25) k)).1)) 38 i k) := wfm_a (k := 38) hw11 (show (-1 : Int) ≤ k ∧ k ≤ 40 by omega)
      refine C_aload_n dX7_judge_197 rfl ?_
      refine C_get (v := .ref 137) dX7_judge_198 f_X7_75 (fun h hc => ⟨_, hc.1, rfl⟩) ?_
      refine C_iload_n dX7_judge_201 rfl ?_
      refine C_iald (v := vi (mat ((mar (c_mcomes σ t (mat (σ.2 25) k)).2 37 i ((c_mcomes σ t (mat (σ.2 25) k)).1)).2 37) i)) dX7_judge_202 (by omega) (by omega) (fun h hc => (hc.rd37 hw12 (by omega) (by omega)).imp (fun vs q => ⟨q.1, q.2.trans (congrArg (fun z => some (vi (mat z i))) (show (mar (mar (c_mcomes σ t (mat (σ.2 25) k)).2 37 i ((c_mcomes σ t (mat (σ.2 25) k)).1)) 38 i k).2 37 = (mar (c_mcomes σ t (mat (σ.2 25) k)).2 37 i ((c_mcomes σ t (mat (σ.2 25) k)).1)).2 37 by simp [mfl, mar, upF]))⟩)) ?_
      have e_202 := hw11.a37 i
      refine C_if_le (tgt := 207) dX7_judge_203 (by decide) (by omega) (fun c_203 => ?_) (fun c_203 => ?_)
      · refine C_iinc dX7_judge_207 rfl (by decide) rfl ?_
        simp only [List.set_cons_zero, List.set_cons_succ]
        refine C_goto (tgt := 164) dX7_judge_210 (by decide) ?_
        rw [c_mjudgeL2, if_neg (by omega), if_pos (by omega)]
        refine CJ.mono (ls' := [some (.ref 116), some (vi i), some (vi s), some (vi e), none, some (vi t), some (vi (k + 1))]) (lsub_ok (by repeat (first | exact trivial | refine ⟨rfl, ?_⟩))) (fun _ _ q => q) ?_
        exact ih hw12 (by omega) (by omega) (by omega) (by omega) (by first | exact q_mcomes (by omega) hw hQ | exact mQ_init (by assumption) (hT _ (by omega) (by omega))) (by omega)
      · refine C_vret dX7_judge_206 rfl ⟨rfl, ?_⟩
        rw [c_mjudgeL2, if_neg (by omega), if_neg (by omega)]
theorem t_mjudgeL1 {l : Launch} {G : jG} {d : Nat} {σ : mS} {i : Int} {s e j : Int} (hw : wfm σ) (hd : 3 ≤ d) (hi : 0 ≤ i ∧ i ≤ 19) (fu : Nat) (hs : 0 ≤ s ∧ s ≤ 40) (he : 0 ≤ e ∧ e ≤ 40) (hj : 0 ≤ j ∧ j ≤ 19) (hT : ∀ t, 0 ≤ t → t ≤ 3 → mT σ t) (hm : 19 - j < (fu : Int)) : CJ jMod mown l G (Yx mX7_judge) d 0 0 71 [some (.ref 116), some (vi i), some (vi s), some (vi e), none, some (vi j), none] [] σ (det none (c_mjudgeL1 i fu s e j σ)) := by
  induction fu generalizing σ s e j with
  | zero => exact absurd hm (by omega)
  | succ fu ih =>
    refine C_iload dX7_judge_71 rfl ?_
    refine C_iload_n dX7_judge_73 rfl ?_
    refine C_icmp_ge (tgt := 117) dX7_judge_74 (by decide) (by omega) (by omega) (fun c_74 => ?_) (fun c_74 => ?_)
    · refine C_aload_n dX7_judge_117 rfl ?_
      refine C_iload_n dX7_judge_118 rfl ?_
      refine D_callV (As := [vi _]) (d' := 1) (t_mtypeOf hw (Nat.le_refl _) (by omega)) dX7_judge_119 v_X7_234 (fun h hc => ⟨_, hc.1⟩) rfl (Nat.le_of_ble_eq_true rfl) (by omega) (Nat.le_of_ble_eq_true rfl) ?_
      simp only [Option.toList, List.nil_append, List.cons_append]
      have r_119 := r_mtypeOf (i := i) hw (by omega)
      refine C_istore dX7_judge_122 (by decide) rfl ?_
      simp only [List.set_cons_zero, List.set_cons_succ, jfin0, jfin1, jfin2, jfin3]
      refine C_iload dX7_judge_124 rfl ?_
      refine C_if_ge (tgt := 137) dX7_judge_126 (by decide) (by omega) (fun c_126 => ?_) (fun c_126 => ?_)
      · refine C_aload_n dX7_judge_137 rfl ?_
        refine C_iconst dX7_judge_138 ?_
        refine C_put (σ' := (mfl σ 45 0)) dX7_judge_139 f_X7_215 jfit_i mown_0 (fun h hc => hc.pf45) ?_
        have hw3 : wfm (mfl σ 45 0) := wfm_f (k := 45) hw (show (0 : Int) ≤ 0 ∧ 0 ≤ 4 by omega)
        refine C_aload_n dX7_judge_142 rfl ?_
        refine C_iconst dX7_judge_143 ?_
        refine C_put (σ' := (mfl (mfl σ 45 0) 44 0)) dX7_judge_144 f_X7_221 jfit_i mown_0 (fun h hc => hc.pf44) ?_
        have hw4 : wfm (mfl (mfl σ 45 0) 44 0) := wfm_f (k := 44) hw3 (show (0 : Int) ≤ 0 ∧ 0 ≤ 99 by omega)
        refine C_aload_n dX7_judge_147 rfl ?_
        refine C_aload_n dX7_judge_148 rfl ?_
        refine C_iload dX7_judge_149 rfl ?_
        refine C_iconst dX7_judge_151 ?_
        refine C_iconst dX7_judge_152 ?_
        refine D_callV (As := [vi _, vi _, vi _]) (d' := 0) (t_mfollowing hw4 (Nat.le_refl _) (by omega) (by omega) (by omega)) dX7_judge_153 v_X7_118 (fun h hc => ⟨_, hc.1⟩) rfl (Nat.le_of_ble_eq_true rfl) (by omega) (Nat.le_of_ble_eq_true rfl) ?_
        simp only [Option.toList, List.nil_append, List.cons_append]
        have r_153 := r_mfollowing (t := (c_mtypeOf σ i)) (k := (-1)) (g := (-1)) hw4 (by omega) (by omega) (by omega)
        refine C_put (σ' := (mfl (mfl (mfl σ 45 0) 44 0) 43 (c_mfollowing (mfl (mfl σ 45 0) 44 0) (c_mtypeOf σ i) (-1) (-1)))) dX7_judge_156 f_X7_218 jfit_i mown_0 (fun h hc => hc.pf43) ?_
        have hw5 : wfm (mfl (mfl (mfl σ 45 0) 44 0) 43 (c_mfollowing (mfl (mfl σ 45 0) 44 0) (c_mtypeOf σ i) (-1) (-1))) := wfm_f (k := 43) hw4 (show (-1 : Int) ≤ (c_mfollowing (mfl (mfl σ 45 0) 44 0) (c_mtypeOf σ i) (-1) (-1)) ∧ (c_mfollowing (mfl (mfl σ 45 0) 44 0) (c_mtypeOf σ i) (-1) (-1)) ≤ 23 by omega)
        refine C_iload_n dX7_judge_159 rfl ?_
        refine C_iconst dX7_judge_160 ?_
        refine C_iadd dX7_judge_161 ?_
        refine C_istore dX7_judge_162 (by decide) rfl ?_
        simp only [List.set_cons_zero, List.set_cons_succ, jfin0, jfin1, jfin2, jfin3]
        rw [c_mjudgeL1, if_pos (by omega), if_pos (by omega)]
        refine CJ.mono (ls' := [some (.ref 116), some (vi i), some (vi s), some (vi e), none, some (vi (c_mtypeOf σ i)), some (vi (s + 1))]) (lsub_ok (by repeat (first | exact trivial | refine ⟨rfl, ?_⟩))) (fun _ _ q => q) ?_
        exact t_mjudgeL2 hw5 hd hi (41) (by omega) (by omega) (by omega) (by omega) (by first | exact q_mcomes (by omega) hw hQ | exact mQ_init (by assumption) (hT _ (by omega) (by omega))) (by omega)
      · refine C_aload_n dX7_judge_129 rfl ?_
        refine C_get (v := .ref 137) dX7_judge_130 f_X7_75 (fun h hc => ⟨_, hc.1, rfl⟩) ?_
        refine C_iload_n dX7_judge_133 rfl ?_
        refine C_iconst dX7_judge_134 ?_
        refine C_iast (σ' := (mar σ 37 i 3)) dX7_judge_135 (by omega) (by omega) mo37 (fun h hc => hc.st37 hw (by omega) (by omega)) ?_
        have hw6 : wfm (mar σ 37 i 3) := wfm_a (k := 37) hw (show (0 : Int) ≤ 3 ∧ 3 ≤ 7 by omega)
        refine C_vret dX7_judge_136 rfl ⟨rfl, ?_⟩
        rw [c_mjudgeL1, if_pos (by omega), if_neg (by omega)]
    · refine C_aload_n dX7_judge_77 rfl ?_
      refine C_aload_n dX7_judge_78 rfl ?_
      refine C_aload_n dX7_judge_79 rfl ?_
      refine C_get (v := .ref 134) dX7_judge_80 f_X7_66 (fun h hc => ⟨_, hc.1, rfl⟩) ?_
      refine C_iload dX7_judge_83 rfl ?_
      refine C_iald (v := vi (mat (σ.2 34) j)) dX7_judge_85 (by omega) (by omega) (fun h hc => hc.rd34 hw (by omega) (by omega)) ?_
      have e_85 := hw.a34 j
      refine C_iconst dX7_judge_86 ?_
      refine D_callV (As := [vi _, vi _]) (d' := 0) (t_mcomponent hw (Nat.le_refl _) (by omega) (by omega)) dX7_judge_87 v_X7_205 (fun h hc => ⟨_, hc.1⟩) rfl (Nat.le_of_ble_eq_true rfl) (by omega) (Nat.le_of_ble_eq_true rfl) ?_
      simp only [Option.toList, List.nil_append, List.cons_append]
      have r_87 := r_mcomponent (s := (mat (σ.2 34) j)) (e := 0) hw (by omega) (by omega)
      refine C_aload_n dX7_judge_90 rfl ?_
      refine C_iload_n dX7_judge_91 rfl ?_
      refine C_iconst dX7_judge_92 ?_
      refine D_callV (As := [vi _, vi _]) (d' := 0) (t_mcomponent hw (Nat.le_refl _) (by omega) (by omega)) dX7_judge_93 v_X7_205 (fun h hc => ⟨_, hc.1⟩) rfl (Nat.le_of_ble_eq_true rfl) (by omega) (Nat.le_of_ble_eq_true rfl) ?_
      simp only [Option.toList, List.nil_append, List.cons_append]
      have r_93 := r_mcomponent (s := s) (e := 0) hw (by omega) (by omega)
      refine D_callV (As := [vi _, vi _]) (d' := 1) (t_msame hw (Nat.le_refl _) (by omega) (by omega)) dX7_judge_96 v_X7_208 (fun h hc => ⟨_, hc.1⟩) rfl (Nat.le_of_ble_eq_true rfl) (by omega) (Nat.le_of_ble_eq_true rfl) ?_
      simp only [Option.toList, List.nil_append, List.cons_append]
      refine C_if_eqZ (tgt := 111) dX7_judge_99 (by decide) (fun c_99 => ?_) (fun c_99 => ?_)
      · refine C_iinc dX7_judge_111 rfl (by decide) rfl ?_
        simp only [List.set_cons_zero, List.set_cons_succ]
        refine C_goto (tgt := 71) dX7_judge_114 (by decide) ?_
        rw [c_mjudgeL1, if_neg (by omega), if_neg (by rw [c_99]; decide)]
        refine CJ.mono (ls' := [some (.ref 116), some (vi i), some (vi s), some (vi e), none, some (vi (j + 1)), none]) (lsub_ok (by repeat (first | exact trivial | refine ⟨rfl, ?_⟩))) (fun _ _ q => q) ?_
        exact ih hw (by omega) (by omega) (by omega) hT (by omega)
      · refine C_aload_n dX7_judge_102 rfl ?_
        refine C_get (v := .ref 137) dX7_judge_103 f_X7_75 (fun h hc => ⟨_, hc.1, rfl⟩) ?_
        refine C_iload_n dX7_judge_106 rfl ?_
        refine C_bipush dX7_judge_107 (by decide) ?_
        refine C_iast (σ' := (mar σ 37 i 7)) dX7_judge_109 (by omega) (by omega) mo37 (fun h hc => hc.st37 hw (by omega) (by omega)) ?_
        have hw8 : wfm (mar σ 37 i 7) := wfm_a (k := 37) hw (show (0 : Int) ≤ 7 ∧ 7 ≤ 7 by omega)
        refine C_vret dX7_judge_110 rfl ⟨rfl, ?_⟩
        rw [c_mjudgeL1, if_neg (by omega), if_pos c_99]
theorem t_mjudge {l : Launch} {G : jG} {d : Nat} {σ : mS} {i : Int} (hw : wfm σ) (hd : 3 ≤ d) (hi : 0 ≤ i ∧ i ≤ 19) (hT : ∀ t, 0 ≤ t → t ≤ 3 → mT σ t) : CJ jMod mown l G (Yx mX7_judge) d 0 0 0 [some (.ref 116), some (vi i), none, none, none, none, none] [] σ (det none (c_mjudge σ i)) := by
  refine C_aload_n dX7_judge_0 rfl ?_
  refine C_get (v := .ref 134) dX7_judge_1 f_X7_66 (fun h hc => ⟨_, hc.1, rfl⟩) ?_
  refine C_iload_n dX7_judge_4 rfl ?_
  refine C_iald (v := vi (mat (σ.2 34) i)) dX7_judge_5 (by omega) (by omega) (fun h hc => hc.rd34 hw (by omega) (by omega)) ?_
  have e_5 := hw.a34 i
  refine C_istore_n dX7_judge_6 (by decide) rfl ?_
  simp only [List.set_cons_zero, List.set_cons_succ, jfin0, jfin1, jfin2, jfin3]
  refine C_aload_n dX7_judge_7 rfl ?_
  refine C_get (v := .ref 135) dX7_judge_8 f_X7_69 (fun h hc => ⟨_, hc.1, rfl⟩) ?_
  refine C_iload_n dX7_judge_11 rfl ?_
  refine C_iald (v := vi (mat (σ.2 35) i)) dX7_judge_12 (by omega) (by omega) (fun h hc => hc.rd35 hw (by omega) (by omega)) ?_
  have e_12 := hw.a35 i
  refine C_istore_n dX7_judge_13 (by decide) rfl ?_
  simp only [List.set_cons_zero, List.set_cons_succ, jfin0, jfin1, jfin2, jfin3]
  refine C_aload_n dX7_judge_14 rfl ?_
  refine C_iload_n dX7_judge_15 rfl ?_
  refine C_iconst dX7_judge_16 ?_
  refine C_iload_n dX7_judge_17 rfl ?_
  refine C_iload_n dX7_judge_18 rfl ?_
  refine C_iload_n dX7_judge_19 rfl ?_
  refine C_isub dX7_judge_20 ?_
  refine C_iconst dX7_judge_21 ?_
  refine C_iadd dX7_judge_22 ?_
  refine D_callV (As := [vi _, vi _, vi _, vi _]) (d' := 2) (t_mcheck hw (Nat.le_refl _) (by omega) (by omega) (by omega) (by omega)) dX7_judge_23 v_X7_230 (fun h hc => ⟨_, hc.1⟩) rfl (Nat.le_of_ble_eq_true rfl) (by omega) (Nat.le_of_ble_eq_true rfl) ?_
  simp only [Option.toList, List.nil_append, List.cons_append]
  have r_23 := r_mcheck (s := (mat (σ.2 34) i)) (e := 0) (u := (mat (σ.2 35) i)) (v := (((mat (σ.2 35) i) - (mat (σ.2 34) i)) + 1)) hw (by omega) (by omega) (by omega) (by omega)
  refine C_istore dX7_judge_26 (by decide) rfl ?_
  simp only [List.set_cons_zero, List.set_cons_succ, jfin0, jfin1, jfin2, jfin3]
  refine C_aload_n dX7_judge_28 rfl ?_
  refine C_get (v := .ref 137) dX7_judge_29 f_X7_75 (fun h hc => ⟨_, hc.1, rfl⟩) ?_
  refine C_iload_n dX7_judge_32 rfl ?_
  refine C_iload dX7_judge_33 rfl ?_
  refine C_iconst dX7_judge_35 ?_
  refine C_irem dX7_judge_36 (by omega) (by omega) (by omega) (by omega) ?_
  refine C_iconst dX7_judge_37 ?_
  refine C_icmp_ne (tgt := 45) dX7_judge_38 (by decide) (by omega) (by omega) (fun c_38 => ?_) (fun c_38 => ?_)
  · refine C_iload dX7_judge_45 rfl ?_
    refine C_iast (σ' := (mar σ 37 i (c_mcheck σ (mat (σ.2 34) i) 0 (mat (σ.2 35) i) (((mat (σ.2 35) i) - (mat (σ.2 34) i)) + 1)))) dX7_judge_47 (by omega) (by omega) mo37 (fun h hc => hc.st37 hw (by omega) (by omega)) ?_
    have hw2 : wfm (mar σ 37 i (c_mcheck σ (mat (σ.2 34) i) 0 (mat (σ.2 35) i) (((mat (σ.2 35) i) - (mat (σ.2 34) i)) + 1))) := wfm_a (k := 37) hw (show (0 : Int) ≤ (c_mcheck σ (mat (σ.2 34) i) 0 (mat (σ.2 35) i) (((mat (σ.2 35) i) - (mat (σ.2 34) i)) + 1)) ∧ (c_mcheck σ (mat (σ.2 34) i) 0 (mat (σ.2 35) i) (((mat (σ.2 35) i) - (mat (σ.2 34) i)) + 1)) ≤ 7 by omega)
    refine C_aload_n dX7_judge_48 rfl ?_
    refine C_get (v := .ref 138) dX7_judge_49 f_X7_78 (fun h hc => ⟨_, hc.1, rfl⟩) ?_
    refine C_iload_n dX7_judge_52 rfl ?_
    refine C_iload_n dX7_judge_53 rfl ?_
    refine C_iast (σ' := (mar (mar σ 37 i (c_mcheck σ (mat (σ.2 34) i) 0 (mat (σ.2 35) i) (((mat (σ.2 35) i) - (mat (σ.2 34) i)) + 1))) 38 i (mat (σ.2 35) i))) dX7_judge_54 (by omega) (by omega) mo38 (fun h hc => hc.st38 hw2 (by omega) (by omega)) ?_
    have hw3 : wfm (mar (mar σ 37 i (c_mcheck σ (mat (σ.2 34) i) 0 (mat (σ.2 35) i) (((mat (σ.2 35) i) - (mat (σ.2 34) i)) + 1))) 38 i (mat (σ.2 35) i)) := wfm_a (k := 38) hw2 (show (-1 : Int) ≤ (mat (σ.2 35) i) ∧ (mat (σ.2 35) i) ≤ 40 by omega)
    refine C_iload dX7_judge_55 rfl ?_
    refine C_if_le (tgt := 61) dX7_judge_57 (by decide) (by omega) (fun c_57 => ?_) (fun c_57 => ?_)
    · refine C_aload_n dX7_judge_61 rfl ?_
      refine C_get (v := .ref 138) dX7_judge_62 f_X7_78 (fun h hc => ⟨_, hc.1, rfl⟩) ?_
      refine C_iload_n dX7_judge_65 rfl ?_
      refine C_iload_n dX7_judge_66 rfl ?_
      refine C_iast (σ' := (mar (mar (mar σ 37 i (c_mcheck σ (mat (σ.2 34) i) 0 (mat (σ.2 35) i) (((mat (σ.2 35) i) - (mat (σ.2 34) i)) + 1))) 38 i (mat (σ.2 35) i)) 38 i (mat (σ.2 34) i))) dX7_judge_67 (by omega) (by omega) mo38 (fun h hc => hc.st38 hw3 (by omega) (by omega)) ?_
      have hw5 : wfm (mar (mar (mar σ 37 i (c_mcheck σ (mat (σ.2 34) i) 0 (mat (σ.2 35) i) (((mat (σ.2 35) i) - (mat (σ.2 34) i)) + 1))) 38 i (mat (σ.2 35) i)) 38 i (mat (σ.2 34) i)) := wfm_a (k := 38) hw3 (show (-1 : Int) ≤ (mat (σ.2 34) i) ∧ (mat (σ.2 34) i) ≤ 40 by omega)
      refine C_iconst dX7_judge_68 ?_
      refine C_istore dX7_judge_69 (by decide) rfl ?_
      simp only [List.set_cons_zero, List.set_cons_succ, jfin0, jfin1, jfin2, jfin3]
      rw [c_mjudge, if_neg (by omega), if_pos (by omega)]
      refine CJ.mono (ls' := [some (.ref 116), some (vi i), some (vi (mat (σ.2 34) i)), some (vi (mat (σ.2 35) i)), none, some (vi 0), none]) (lsub_ok (by repeat (first | exact trivial | refine ⟨rfl, ?_⟩))) (fun _ _ q => q) ?_
      exact t_mjudgeL1 hw5 hd hi (20) (by omega) (by omega) (by omega) hT (by omega)
    · refine C_vret dX7_judge_60 rfl ⟨rfl, ?_⟩
      rw [c_mjudge, if_neg (by omega), if_neg (by omega)]
  · refine C_iconst dX7_judge_41 ?_
    refine C_goto (tgt := 47) dX7_judge_42 (by decide) ?_
    refine C_iast (σ' := (mar σ 37 i 1)) dX7_judge_47 (by omega) (by omega) mo37 (fun h hc => hc.st37 hw (by omega) (by omega)) ?_
    have hw6 : wfm (mar σ 37 i 1) := wfm_a (k := 37) hw (show (0 : Int) ≤ 1 ∧ 1 ≤ 7 by omega)
    refine C_aload_n dX7_judge_48 rfl ?_
    refine C_get (v := .ref 138) dX7_judge_49 f_X7_78 (fun h hc => ⟨_, hc.1, rfl⟩) ?_
    refine C_iload_n dX7_judge_52 rfl ?_
    refine C_iload_n dX7_judge_53 rfl ?_
    refine C_iast (σ' := (mar (mar σ 37 i 1) 38 i (mat (σ.2 35) i))) dX7_judge_54 (by omega) (by omega) mo38 (fun h hc => hc.st38 hw6 (by omega) (by omega)) ?_
    have hw7 : wfm (mar (mar σ 37 i 1) 38 i (mat (σ.2 35) i)) := wfm_a (k := 38) hw6 (show (-1 : Int) ≤ (mat (σ.2 35) i) ∧ (mat (σ.2 35) i) ≤ 40 by omega)
    refine C_iload dX7_judge_55 rfl ?_
    refine C_if_le (tgt := 61) dX7_judge_57 (by decide) (by omega) (fun c_57 => ?_) (fun c_57 => ?_)
    · refine C_aload_n dX7_judge_61 rfl ?_
      refine C_get (v := .ref 138) dX7_judge_62 f_X7_78 (fun h hc => ⟨_, hc.1, rfl⟩) ?_
      refine C_iload_n dX7_judge_65 rfl ?_
      refine C_iload_n dX7_judge_66 rfl ?_
      refine C_iast (σ' := (mar (mar (mar σ 37 i 1) 38 i (mat (σ.2 35) i)) 38 i (mat (σ.2 34) i))) dX7_judge_67 (by omega) (by omega) mo38 (fun h hc => hc.st38 hw7 (by omega) (by omega)) ?_
      have hw9 : wfm (mar (mar (mar σ 37 i 1) 38 i (mat (σ.2 35) i)) 38 i (mat (σ.2 34) i)) := wfm_a (k := 38) hw7 (show (-1 : Int) ≤ (mat (σ.2 34) i) ∧ (mat (σ.2 34) i) ≤ 40 by omega)
      refine C_iconst dX7_judge_68 ?_
      refine C_istore dX7_judge_69 (by decide) rfl ?_
      simp only [List.set_cons_zero, List.set_cons_succ, jfin0, jfin1, jfin2, jfin3]
      rw [c_mjudge, if_pos (by omega), if_pos (by omega)]
      refine CJ.mono (ls' := [some (.ref 116), some (vi i), some (vi (mat (σ.2 34) i)), some (vi (mat (σ.2 35) i)), none, some (vi 0), none]) (lsub_ok (by repeat (first | exact trivial | refine ⟨rfl, ?_⟩))) (fun _ _ q => q) ?_
      exact t_mjudgeL1 hw9 hd hi (20) (by omega) (by omega) (by omega) hT (by omega)
    · refine C_vret dX7_judge_60 rfl ⟨rfl, ?_⟩
      rw [c_mjudge, if_pos (by omega), if_neg (by omega)]
theorem w_mjudgeL2 {σ : mS} {i : Int} {s e t k : Int} (hw : wfm σ) (hi : 0 ≤ i ∧ i ≤ 19) (fu : Nat) (hs : 0 ≤ s ∧ s ≤ 40) (he : 0 ≤ e ∧ e ≤ 40) (ht : 0 ≤ t ∧ t ≤ 3) (hk : 1 ≤ k ∧ k ≤ 41) (hQ : mQ σ t) : wfm (c_mjudgeL2 i fu s e t k σ) := by
  induction fu generalizing σ s e t k with
  | zero => exact hw
  | succ fu ih =>
    have hq := hQ.1
    unfold c_mjudgeL2
    split
    · split
      · have hw2 : wfm (c_mlacks σ t).2 := w_mlacks hw (by omega) hq
        have hw7 : wfm (mar (c_mlacks σ t).2 37 i 5) := wfm_a (k := 37) hw2 (show (0 : Int) ≤ 5 ∧ 5 ≤ 7 by omega)
        have hw9 : wfm (mar (mar (c_mlacks σ t).2 37 i 5) 38 i e) := wfm_a (k := 38) hw7 (show (-1 : Int) ≤ e ∧ e ≤ 40 by omega)
        exact hw9
      · have hw2 : wfm (c_mlacks σ t).2 := w_mlacks hw (by omega) hq
        have hw4 : wfm (mar (c_mlacks σ t).2 37 i 0) := wfm_a (k := 37) hw2 (show (0 : Int) ≤ 0 ∧ 0 ≤ 7 by omega)
        have hw6 : wfm (mar (mar (c_mlacks σ t).2 37 i 0) 38 i (-1)) := wfm_a (k := 38) hw4 (show (-1 : Int) ≤ (-1) ∧ (-1) ≤ 40 by omega)
        exact hw6
    · split
      · have e_184 := hw.a25 k
        have hw10 : wfm (c_mcomes σ t (mat (σ.2 25) k)).2 := w_mcomes hw (by omega) (by omega) hq
        have r_185 := r_mcomes (t := t) (v := (mat (σ.2 25) k)) hw (by omega) (by omega) hq
        have hw11 : wfm (mar (c_mcomes σ t (mat (σ.2 25) k)).2 37 i ((c_mcomes σ t (mat (σ.2 25) k)).1)) := wfm_a (k := 37) hw10 (show (0 : Int) ≤ (c_mcomes σ t (mat (σ.2 25) k)).1 ∧ (c_mcomes σ t (mat (σ.2 25) k)).1 ≤ 7 by omega)
        have hw12 : wfm (mar (mar (c_mcomes σ t (mat (σ.2 25) k)).2 37 i ((c_mcomes σ t (mat (σ.2 25) k)).1)) 38 i k) := wfm_a (k := 38) hw11 (show (-1 : Int) ≤ k ∧ k ≤ 40 by omega)
        have e_202 := hw11.a37 i
        exact ih hw12 (by omega) (by omega) (by omega) (by omega) (by first | exact q_mcomes (by omega) hw hQ | exact mQ_init (by assumption) (hT _ (by omega) (by omega)))
      · have e_184 := hw.a25 k
        have hw10 : wfm (c_mcomes σ t (mat (σ.2 25) k)).2 := w_mcomes hw (by omega) (by omega) hq
        have r_185 := r_mcomes (t := t) (v := (mat (σ.2 25) k)) hw (by omega) (by omega) hq
        have hw11 : wfm (mar (c_mcomes σ t (mat (σ.2 25) k)).2 37 i ((c_mcomes σ t (mat (σ.2 25) k)).1)) := wfm_a (k := 37) hw10 (show (0 : Int) ≤ (c_mcomes σ t (mat (σ.2 25) k)).1 ∧ (c_mcomes σ t (mat (σ.2 25) k)).1 ≤ 7 by omega)
        have hw12 : wfm (mar (mar (c_mcomes σ t (mat (σ.2 25) k)).2 37 i ((c_mcomes σ t (mat (σ.2 25) k)).1)) 38 i k) := wfm_a (k := 38) hw11 (show (-1 : Int) ≤ k ∧ k ≤ 40 by omega)
        have e_202 := hw11.a37 i
        exact hw12
theorem w_mjudgeL1 {σ : mS} {i : Int} {s e j : Int} (hw : wfm σ) (hi : 0 ≤ i ∧ i ≤ 19) (fu : Nat) (hs : 0 ≤ s ∧ s ≤ 40) (he : 0 ≤ e ∧ e ≤ 40) (hj : 0 ≤ j ∧ j ≤ 19) (hT : ∀ t, 0 ≤ t → t ≤ 3 → mT σ t) : wfm (c_mjudgeL1 i fu s e j σ) := by
  induction fu generalizing σ s e j with
  | zero => exact hw
  | succ fu ih =>
    unfold c_mjudgeL1
    split
    · split
      · have r_119 := r_mtypeOf (i := i) hw (by omega)
        have hw3 : wfm (mfl σ 45 0) := wfm_f (k := 45) hw (show (0 : Int) ≤ 0 ∧ 0 ≤ 4 by omega)
        have hw4 : wfm (mfl (mfl σ 45 0) 44 0) := wfm_f (k := 44) hw3 (show (0 : Int) ≤ 0 ∧ 0 ≤ 99 by omega)
        have r_153 := r_mfollowing (t := (c_mtypeOf σ i)) (k := (-1)) (g := (-1)) hw4 (by omega) (by omega) (by omega)
        have hw5 : wfm (mfl (mfl (mfl σ 45 0) 44 0) 43 (c_mfollowing (mfl (mfl σ 45 0) 44 0) (c_mtypeOf σ i) (-1) (-1))) := wfm_f (k := 43) hw4 (show (-1 : Int) ≤ (c_mfollowing (mfl (mfl σ 45 0) 44 0) (c_mtypeOf σ i) (-1) (-1)) ∧ (c_mfollowing (mfl (mfl σ 45 0) 44 0) (c_mtypeOf σ i) (-1) (-1)) ≤ 23 by omega)
        exact w_mjudgeL2 hw5 hi (41) (by omega) (by omega) (by omega) (by omega) (by first | exact q_mcomes (by omega) hw hQ | exact mQ_init (by assumption) (hT _ (by omega) (by omega)))
      · have r_119 := r_mtypeOf (i := i) hw (by omega)
        have hw6 : wfm (mar σ 37 i 3) := wfm_a (k := 37) hw (show (0 : Int) ≤ 3 ∧ 3 ≤ 7 by omega)
        exact hw6
    · split
      · have e_85 := hw.a34 j
        have r_87 := r_mcomponent (s := (mat (σ.2 34) j)) (e := 0) hw (by omega) (by omega)
        have r_93 := r_mcomponent (s := s) (e := 0) hw (by omega) (by omega)
        have hw8 : wfm (mar σ 37 i 7) := wfm_a (k := 37) hw (show (0 : Int) ≤ 7 ∧ 7 ≤ 7 by omega)
        exact hw8
      · have e_85 := hw.a34 j
        have r_87 := r_mcomponent (s := (mat (σ.2 34) j)) (e := 0) hw (by omega) (by omega)
        have r_93 := r_mcomponent (s := s) (e := 0) hw (by omega) (by omega)
        exact ih hw (by omega) (by omega) (by omega) hT
theorem w_mjudge {σ : mS} {i : Int} (hw : wfm σ) (hi : 0 ≤ i ∧ i ≤ 19) (hT : ∀ t, 0 ≤ t → t ≤ 3 → mT σ t) : wfm (c_mjudge σ i) := by
  unfold c_mjudge
  split
  · split
    · have e_5 := hw.a34 i
      have e_12 := hw.a35 i
      have r_23 := r_mcheck (s := (mat (σ.2 34) i)) (e := 0) (u := (mat (σ.2 35) i)) (v := (((mat (σ.2 35) i) - (mat (σ.2 34) i)) + 1)) hw (by omega) (by omega) (by omega) (by omega)
      have hw6 : wfm (mar σ 37 i 1) := wfm_a (k := 37) hw (show (0 : Int) ≤ 1 ∧ 1 ≤ 7 by omega)
      have hw7 : wfm (mar (mar σ 37 i 1) 38 i (mat (σ.2 35) i)) := wfm_a (k := 38) hw6 (show (-1 : Int) ≤ (mat (σ.2 35) i) ∧ (mat (σ.2 35) i) ≤ 40 by omega)
      have hw9 : wfm (mar (mar (mar σ 37 i 1) 38 i (mat (σ.2 35) i)) 38 i (mat (σ.2 34) i)) := wfm_a (k := 38) hw7 (show (-1 : Int) ≤ (mat (σ.2 34) i) ∧ (mat (σ.2 34) i) ≤ 40 by omega)
      exact w_mjudgeL1 hw9 hi (20) (by omega) (by omega) (by omega) hT
    · have e_5 := hw.a34 i
      have e_12 := hw.a35 i
      have r_23 := r_mcheck (s := (mat (σ.2 34) i)) (e := 0) (u := (mat (σ.2 35) i)) (v := (((mat (σ.2 35) i) - (mat (σ.2 34) i)) + 1)) hw (by omega) (by omega) (by omega) (by omega)
      have hw6 : wfm (mar σ 37 i 1) := wfm_a (k := 37) hw (show (0 : Int) ≤ 1 ∧ 1 ≤ 7 by omega)
      have hw7 : wfm (mar (mar σ 37 i 1) 38 i (mat (σ.2 35) i)) := wfm_a (k := 38) hw6 (show (-1 : Int) ≤ (mat (σ.2 35) i) ∧ (mat (σ.2 35) i) ≤ 40 by omega)
      exact hw7
  · split
    · have e_5 := hw.a34 i
      have e_12 := hw.a35 i
      have r_23 := r_mcheck (s := (mat (σ.2 34) i)) (e := 0) (u := (mat (σ.2 35) i)) (v := (((mat (σ.2 35) i) - (mat (σ.2 34) i)) + 1)) hw (by omega) (by omega) (by omega) (by omega)
      have hw2 : wfm (mar σ 37 i (c_mcheck σ (mat (σ.2 34) i) 0 (mat (σ.2 35) i) (((mat (σ.2 35) i) - (mat (σ.2 34) i)) + 1))) := wfm_a (k := 37) hw (show (0 : Int) ≤ (c_mcheck σ (mat (σ.2 34) i) 0 (mat (σ.2 35) i) (((mat (σ.2 35) i) - (mat (σ.2 34) i)) + 1)) ∧ (c_mcheck σ (mat (σ.2 34) i) 0 (mat (σ.2 35) i) (((mat (σ.2 35) i) - (mat (σ.2 34) i)) + 1)) ≤ 7 by omega)
      have hw3 : wfm (mar (mar σ 37 i (c_mcheck σ (mat (σ.2 34) i) 0 (mat (σ.2 35) i) (((mat (σ.2 35) i) - (mat (σ.2 34) i)) + 1))) 38 i (mat (σ.2 35) i)) := wfm_a (k := 38) hw2 (show (-1 : Int) ≤ (mat (σ.2 35) i) ∧ (mat (σ.2 35) i) ≤ 40 by omega)
      have hw5 : wfm (mar (mar (mar σ 37 i (c_mcheck σ (mat (σ.2 34) i) 0 (mat (σ.2 35) i) (((mat (σ.2 35) i) - (mat (σ.2 34) i)) + 1))) 38 i (mat (σ.2 35) i)) 38 i (mat (σ.2 34) i)) := wfm_a (k := 38) hw3 (show (-1 : Int) ≤ (mat (σ.2 34) i) ∧ (mat (σ.2 34) i) ≤ 40 by omega)
      exact w_mjudgeL1 hw5 hi (20) (by omega) (by omega) (by omega) hT
    · have e_5 := hw.a34 i
      have e_12 := hw.a35 i
      have r_23 := r_mcheck (s := (mat (σ.2 34) i)) (e := 0) (u := (mat (σ.2 35) i)) (v := (((mat (σ.2 35) i) - (mat (σ.2 34) i)) + 1)) hw (by omega) (by omega) (by omega) (by omega)
      have hw2 : wfm (mar σ 37 i (c_mcheck σ (mat (σ.2 34) i) 0 (mat (σ.2 35) i) (((mat (σ.2 35) i) - (mat (σ.2 34) i)) + 1))) := wfm_a (k := 37) hw (show (0 : Int) ≤ (c_mcheck σ (mat (σ.2 34) i) 0 (mat (σ.2 35) i) (((mat (σ.2 35) i) - (mat (σ.2 34) i)) + 1)) ∧ (c_mcheck σ (mat (σ.2 34) i) 0 (mat (σ.2 35) i) (((mat (σ.2 35) i) - (mat (σ.2 34) i)) + 1)) ≤ 7 by omega)
      have hw3 : wfm (mar (mar σ 37 i (c_mcheck σ (mat (σ.2 34) i) 0 (mat (σ.2 35) i) (((mat (σ.2 35) i) - (mat (σ.2 34) i)) + 1))) 38 i (mat (σ.2 35) i)) := wfm_a (k := 38) hw2 (show (-1 : Int) ≤ (mat (σ.2 35) i) ∧ (mat (σ.2 35) i) ≤ 40 by omega)
      exact hw3
