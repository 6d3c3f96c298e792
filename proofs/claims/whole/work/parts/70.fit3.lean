/-! envelopes: the loops -/
def TA (ν : mS) (tg : List Int) (n : Int) : Prop := ν.1 24 = n ∧ ∀ x, 0 ≤ x → x < n → mat (ν.2 25) x = mat tg x
theorem unz_E {tg : List Int} {n : Int} (hz : mat tg (n - 1) = 5590618) : isE (mat tg (n - 1)) = true := by rw [hz]; decide
theorem B_step {n g q k : Int} {ν : mS} {fu : Nat} (hn : n ≤ 40) (hk : 0 ≤ k) : c_mwrapsB n g (fu + 1) k q ν = (if (n - 1) ≤ k then (0, k, q) else (if (mat (ν.2 15) k) = 5590600 then (if (mat (ν.2 15) (NX (ν.2 15) n (k + 1))) = 5590612 then (c_mwrapsB n g fu ((NX (ν.2 15) n (k + 1)) + 1) (q + 1) ν) else (1, (NX (ν.2 15) n (k + 1)), q)) else (0, k, q))) := by
  rw [c_mwrapsB, wrapsA_eq, nxe_eq 40 (k + 1) (by omega)]
theorem msg_step {σ : cS} {ν : mS} {e : Nat} {tg : List Int} {n k m gC gM : Int} (he : kd e = 0) (hz : mat tg (n - 1) = 5590618) (hn : n ≤ 40) (ht : FT σ e tg n k) (h : FR σ ν e n k m gC gM) (ha : TA ν tg n) (hk : 1 ≤ k) (hk2 : k < n - 1) (hg : gC + 1 = gM ∨ gC = 0 ∧ gM = 0) :
    (mat tg k = 5590600 ∧ mat tg (NX tg n (k + 1)) = 5590612 ∧ (c_takeMessage σ e (gM - 1)).1 = true ∧ FT (c_takeMessage σ e (gM - 1)).2 e tg n (NX tg n (k + 1) + 1) ∧ k < NX tg n (k + 1) ∧ NX tg n (k + 1) < n - 1 ∧ ∃ ν' : mS, FR (c_takeMessage σ e (gM - 1)).2 ν' e n (NX tg n (k + 1) + 1) (m + 1) gC gM ∧ TA ν' tg n ∧ tkr k ν = tkr (NX tg n (k + 1) + 1) ν' ∧ (∀ i, 0 ≤ i → i < m → mat (ν'.2 36) i = mat (ν.2 36) i) ∧ mat (ν'.2 36) m = gM - 1 ∧ ν'.2 40 = ν.2 40) ∨
    (¬ (mat tg k = 5590600 ∧ mat tg (NX tg n (k + 1)) = 5590612) ∧ (c_takeMessage σ e (gM - 1)).1 = false) := by
  have nr := NX_r2 (k := k + 1) (unz_E hz) (by omega)
  have te := tm_eq (g := gM - 1) (unz_E hz) hn ht.1 ht.2 hk hk2
  have sz := h.2.2.1
  by_cases c1 : mat tg k = 5590600
  · by_cases c2 : mat tg (NX tg n (k + 1)) = 5590612
    · rw [if_pos c1, if_pos c2] at te
      have jn : NX tg n (k + 1) < n - 1 := by
        rcases Int.lt_or_le (NX tg n (k + 1)) (n - 1) with q | q
        · exact q
        · have : NX tg n (k + 1) = n - 1 := by omega
          rw [this, hz] at c2; omega
      refine Or.inl ⟨c1, c2, by rw [te], ?_, by omega, jn, mar (mfl (mar (mar ν 34 m k) 36 m (gM - 1)) 33 (m + 1)) 35 m (NX tg n (k + 1)), ?_, ?_, ?_, fun i a b => ?_, ?_, ?_⟩
      · rw [te]
        have r := h.1
        have em := mAdd_eq (σ := cI σ e 11 (NX tg n (k + 1))) (f := k) (j := NX tg n (k + 1)) (g := gM - 1) he ⟨r.1.1, r.2.1.1, r.2.2.1.1, r.2.2.2.1, r.2.2.2.2⟩ (by omega)
        refine ⟨?_, ?_⟩
        · rw [em.2]; simp [upI]
        · rw [em.1]
          have : upR (upR (upR (upR (upR (cI σ e 11 (NX tg n (k + 1))).1 (e + 12) ((cI σ e 11 (NX tg n (k + 1))).1 (e + 12) ++ [k])) (e + 14) ((cI σ e 11 (NX tg n (k + 1))).1 (e + 14) ++ [NX tg n (k + 1)])) (e + 16) ((cI σ e 11 (NX tg n (k + 1))).1 (e + 16) ++ [gM - 1])) (e + 18) ((cI σ e 11 (NX tg n (k + 1))).1 (e + 18) ++ [0])) (e + 20) ((cI σ e 11 (NX tg n (k + 1))).1 (e + 20) ++ [-1]) (e + 1 + 1) = σ.1 (e + 1 + 1) := by
            simp [upR, cI]
          rw [this]; exact ht.2
      · rw [te]; exact h.msg he (by omega) hk (by omega) (by omega) hg
      · exact ⟨ha.1, ha.2⟩
      · have t1 := ha.2 k (by omega) (by omega)
        rw [tkr_step (by omega) (by rw [ha.1]; omega), t1, c1, if_neg (by decide), if_neg (by decide), if_pos rfl, sz.1, sz.2.1]
        have hb : TA (mfl (mar (mar ν 34 m k) 36 m (gM - 1)) 33 (m + 1)) tg n := ha
        rw [tkr_NX hn hb.1 hb.2 (n - 1 - (k + 1)).toNat (k + 1) (by omega) (by omega)]
        have t2 := hb.2 (NX tg n (k + 1)) (by omega) (by omega)
        rw [tkr_step (by omega) (by rw [hb.1]; omega), t2, c2, if_neg (by decide), if_neg (by decide), if_neg (by decide), if_pos rfl]
        show tkr _ (mar (mfl (mar (mar ν 34 m k) 36 m (gM - 1)) 33 (m + 1)) 35 (m + 1 - 1) _) = _
        rw [show m + 1 - 1 = m by omega]
      · simp only [mar, mfl, upF]; exact mat_set_ne (by omega)
      · show mat ((ν.2 36).set m.toNat (gM - 1)) m = gM - 1
        exact mat_set (by have := h.2.2.2.1.2.2.1; omega)
      · simp [mar, mfl, upF]
    · rw [if_pos c1, if_neg c2] at te
      exact Or.inr ⟨fun q => c2 q.2, by rw [te]⟩
  · rw [if_neg c1] at te
    exact Or.inr ⟨fun q => c1 q.1, by rw [te]⟩
/-- messages without groups -/
theorem ug_run {e : Nat} {tg : List Int} {n : Int} {ν0 : mS} (he : kd e = 0) (hz : mat tg (n - 1) = 5590618) (hn : n ≤ 40) (h15 : ν0.2 15 = tg) (fu : Nat) : ∀ (kk k m : Int) (σ : cS) (ν : mS) (fu2 : Nat), FT σ e tg n k → FR σ ν e n k m 0 0 → TA ν tg n → 1 ≤ k → k ≤ n - 1 → kk = m → 20 - kk ≤ (fu : Int) → n - k < (fu2 : Int) →
    ((c_fitL e fu (n - 1) 0 kk σ).1 = true ∧ (c_mwrapsB n 0 fu2 k m ν0).1 ≠ 1 ∧ (c_mwrapsB n 0 fu2 k m ν0).2.2 ≠ 0 ∧ n - 1 ≤ (c_mwrapsB n 0 fu2 k m ν0).2.1 ∧ ∃ M : Int, FR (c_fitL e fu (n - 1) 0 kk σ).2 (tkr k ν) e n (n - 1) M 0 0 ∧ 1 ≤ M ∧ FT (c_fitL e fu (n - 1) 0 kk σ).2 e tg n (n - 1)) ∨
    ((c_fitL e fu (n - 1) 0 kk σ).1 = false ∧ ((c_mwrapsB n 0 fu2 k m ν0).1 = 1 ∨ (c_mwrapsB n 0 fu2 k m ν0).2.2 = 0 ∨ (c_mwrapsB n 0 fu2 k m ν0).2.1 < n - 1)) := by
  induction fu with
  | zero => intro kk k m σ ν fu2 _ h _ _ _ _ hf; have := h.2.2.1; omega
  | succ fu ih =>
    intro kk k m σ ν fu2 ht h ha hk hk2 hkm hf hf2
    have sz := h.2.2.1
    cases fu2 with
    | zero => omega
    | succ fu2 =>
      rw [B_step hn (by omega), h15]
      have lm : ((σ.1 (e + 12)).length : Int) = m := h.1.1.1
      by_cases ce : n - 1 ≤ k
      · have ek : k = n - 1 := by omega
        have er : c_fitL e (fu + 1) (n - 1) 0 kk σ = if m ≤ 0 then (false, σ) else (true, σ) := by
          unfold c_fitL
          rw [ht.1]
          have e1 : (if k = n - 1 then (if (σ.1 (e + 12)).length ≤ 0 then ((false, σ) : Bool × cS) else (true, σ)) else (false, σ)) = if m ≤ 0 then (false, σ) else (true, σ) := by
            rw [if_pos ek]
            by_cases c0 : m ≤ 0
            · rw [if_pos c0, if_pos (show (σ.1 (e + 12)).length ≤ 0 by omega)]
            · rw [if_neg c0, if_neg (show ¬ (σ.1 (e + 12)).length ≤ 0 by omega)]
          by_cases c19 : 19 ≤ kk
          · rw [if_pos c19]; exact e1
          · rw [if_neg c19, if_pos ce]; exact e1
        rw [er, if_pos ce]
        by_cases c0 : m ≤ 0
        · rw [if_pos c0]; exact Or.inr ⟨rfl, Or.inr (Or.inl (show m = 0 by omega))⟩
        · rw [if_neg c0]
          refine Or.inl ⟨rfl, (show ¬ (0 : Int) = 1 by decide), (show ¬ m = 0 by omega), ce, m, ?_, by omega, ?_⟩
          · rw [tkr_end (by rw [ha.1]; omega), ← ek]; exact h
          · rw [← ek]; exact ht
      unfold c_fitL
      rw [ht.1]
      rw [if_neg (show ¬ 19 ≤ kk by omega), if_neg ce, if_pos rfl, if_neg ce]
      · rcases msg_step he hz hn ht h ha hk (by omega) (Or.inr ⟨rfl, rfl⟩) with ⟨a1, a2, a3, a4, a5, a6, ν', a7, a8, a9, -⟩ | ⟨a1, a2⟩
        · have a3' : (c_takeMessage σ e (-1)).1 = true := a3
          rw [if_pos a1, if_pos a2, if_pos a3']
          have res := ih (kk + 1) (NX tg n (k + 1) + 1) (m + 1) _ ν' fu2 a4 a7 a8 (by omega) (by omega) (by omega) (by omega) (by omega)
          rw [a9]; exact res
        · have a2' : (c_takeMessage σ e (-1)).1 = false := a2
          rw [if_neg (show ¬ (c_takeMessage σ e (-1)).1 = true by rw [a2']; decide)]
          refine Or.inr ⟨rfl, ?_⟩
          by_cases c1 : mat tg k = 5590600
          · rw [if_pos c1, if_neg (fun q => a1 ⟨c1, q⟩)]; exact Or.inl rfl
          · rw [if_neg c1]; exact Or.inr (Or.inr (show k < n - 1 by omega))
/-- the messages of a group, and its end -/
theorem gl_run {e : Nat} {tg : List Int} {n b g f : Int} {ν0 : mS} (he : kd e = 0) (hz : mat tg (n - 1) = 5590618) (hn : n ≤ 40) (h15 : ν0.2 15 = tg) (fu : Nat) : ∀ (kk k m : Int) (σ : cS) (ν : mS) (fu2 : Nat), FT σ e tg n k → FR σ ν e n k m g (g + 1) → TA ν tg n → 1 ≤ k → k ≤ n - 1 → kk = m - b → 0 ≤ b → b ≤ m → (∀ i, 0 ≤ i → i < b → mat (ν.2 36) i < g) → (∀ i, b ≤ i → i < m → mat (ν.2 36) i = g) → mat (ν.2 40) g = f → g ≤ b → 20 - kk ≤ (fu : Int) → n - k < (fu2 : Int) →
    ((c_takeGroupL e fu f b kk σ).1 = true ∧ (c_mwrapsB n 1 fu2 k (m - b) ν0).1 ≠ 1 ∧ (c_mwrapsB n 1 fu2 k (m - b) ν0).2.2 ≠ 0 ∧ mat tg (c_mwrapsB n 1 fu2 k (m - b) ν0).2.1 = 5590597 ∧ k ≤ (c_mwrapsB n 1 fu2 k (m - b) ν0).2.1 ∧ (c_mwrapsB n 1 fu2 k (m - b) ν0).2.1 < n - 1 ∧ FT (c_takeGroupL e fu f b kk σ).2 e tg n ((c_mwrapsB n 1 fu2 k (m - b) ν0).2.1 + 1) ∧ ∃ (M : Int) (ν' : mS), tkr k ν = tkr ((c_mwrapsB n 1 fu2 k (m - b) ν0).2.1 + 1) ν' ∧ FR (c_takeGroupL e fu f b kk σ).2 ν' e n ((c_mwrapsB n 1 fu2 k (m - b) ν0).2.1 + 1) M (g + 1) (g + 1) ∧ TA ν' tg n ∧ g + 1 ≤ M) ∨
    ((c_takeGroupL e fu f b kk σ).1 = false ∧ ((c_mwrapsB n 1 fu2 k (m - b) ν0).1 = 1 ∨ (c_mwrapsB n 1 fu2 k (m - b) ν0).2.2 = 0 ∨ ¬ mat tg (c_mwrapsB n 1 fu2 k (m - b) ν0).2.1 = 5590597)) := by
  induction fu with
  | zero => intro kk k m σ ν fu2 _ h _ _ _ _ _ _ _ _ _ _ hf; have := h.2.2.1; omega
  | succ fu ih =>
    intro kk k m σ ν fu2 ht h ha hk hk2 hkm hb0 hbm hb1 hb2 hfe hgb hf hf2
    have sz := h.2.2.1
    have lm : ((σ.1 (e + 12)).length : Int) = m := h.1.1.1
    have lg : ((σ.1 (e + 22)).length : Int) = g := h.2.1.1.1
    have ct : c_tagOf σ (e + 1) (σ.2.1 e 11) = mat tg k := by rw [ht.1]; exact ht.2.in (by omega) (by omega)
    cases fu2 with
    | zero => omega
    | succ fu2 =>
      unfold c_takeGroupL
      rw [if_neg (show ¬ 19 ≤ kk by omega), ct, B_step hn (by omega), h15]
      by_cases c1 : mat tg k = 5590600
      · have kn : ¬ n - 1 ≤ k := fun q => by
          have : k = n - 1 := by omega
          rw [this, hz] at c1; omega
        rw [if_pos c1, if_neg kn, if_pos c1, lg]
        have eg : g = g + 1 - 1 := by omega
        rcases msg_step he hz hn ht h ha hk (by omega) (Or.inl rfl) with ⟨a1, a2, a3, a4, a5, a6, ν', a7, a8, a9, a10, a11, a12⟩ | ⟨a1, a2⟩
        · rw [← eg] at a3 a4 a7 a11
          rw [if_pos a2, if_pos a3]
          have res := ih (kk + 1) (NX tg n (k + 1) + 1) (m + 1) _ ν' fu2 a4 a7 a8 (by omega) (by omega) (by omega) hb0 (by omega) (fun i p q => by rw [a10 i p (by omega)]; exact hb1 i p q) (fun i p q => by
            by_cases ei : i = m
            · subst ei; exact a11
            · rw [a10 i (by omega) (by omega)]; exact hb2 i p (by omega)) (by rw [a12]; exact hfe) hgb (by omega) (by omega)
          rw [show m + 1 - b = m - b + 1 by omega] at res
          rw [a9]
          rcases res with ⟨b1, b2, b3, b4, b5, b6, b7⟩ | res
          · exact Or.inl ⟨b1, b2, b3, b4, by omega, b6, b7⟩
          · exact Or.inr res
        · rw [← eg] at a2
          rw [if_neg (show ¬ (c_takeMessage σ e g).1 = true by rw [a2]; decide), if_neg (fun q => a1 ⟨c1, q⟩)]
          exact Or.inr ⟨rfl, Or.inl rfl⟩
      · have eB : (if n - 1 ≤ k then ((0, k, m - b) : Int × Int × Int) else if mat tg k = 5590600 then (if mat tg (NX tg n (k + 1)) = 5590612 then c_mwrapsB n 1 fu2 (NX tg n (k + 1) + 1) (m - b + 1) ν0 else (1, NX tg n (k + 1), m - b)) else (0, k, m - b)) = (0, k, m - b) := by
          by_cases q : n - 1 ≤ k
          · rw [if_pos q]
          · rw [if_neg q, if_neg c1]
        rw [if_neg c1, eB]
        by_cases c2 : mat tg k = 5590597
        · rw [if_pos c2]
          by_cases c3 : ((σ.1 (e + 12)).length : Int) = b
          · rw [if_pos c3]; exact Or.inr ⟨rfl, Or.inr (Or.inl (show m - b = 0 by omega))⟩
          · rw [if_neg c3]
            have kn : k < n - 1 := by
              rcases Int.lt_or_le k (n - 1) with q | q
              · exact q
              · have : k = n - 1 := by omega
                rw [this, hz] at c2; omega
            have e12 : ((cadd (cadd σ (e + 22) f) (e + 24) (σ.2.1 e 11)).1 (e + 12)).length = (σ.1 (e + 12)).length := by simp [cadd, upR]
            rw [e12, lm, ht.1]
            have fr := h.une (b := b) he hk (by omega) (by omega) ⟨hb0, hbm⟩ hb1 hb2
            rw [hfe] at fr
            refine Or.inl ⟨rfl, (show ¬ (0 : Int) = 1 by decide), (show ¬ m - b = 0 by omega), c2, Int.le_refl _, kn, ⟨?_, ?_⟩, m, mar ν 41 g k, ?_, fr, ⟨ha.1, ha.2⟩, by omega⟩
            · simp [cI, upI]
            · show rowIs ((cI (cadd (cadd (cadd (cadd σ (e + 22) f) (e + 24) k) (e + 26) (m - b)) (e + 28) 0) e 11 (k + 1)).1 (e + 1 + 1)) tg 0 n
              have : (cI (cadd (cadd (cadd (cadd σ (e + 22) f) (e + 24) k) (e + 26) (m - b)) (e + 28) 0) e 11 (k + 1)).1 (e + 1 + 1) = σ.1 (e + 1 + 1) := by simp [cI, cadd, upR]
              rw [this]; exact ht.2
            · rw [tkr_step (by omega) (by rw [ha.1]; omega), ha.2 k (by omega) (by omega), c2, if_neg (by decide), if_pos rfl, sz.2.1]
              rw [show g + 1 - 1 = g by omega]
        · rw [if_neg c2]; exact Or.inr ⟨rfl, Or.inr (Or.inr c2)⟩
/-- groups -/
theorem gt_run {e : Nat} {tg : List Int} {n : Int} {ν0 : mS} (he : kd e = 0) (hz : mat tg (n - 1) = 5590618) (hn : n ≤ 40) (h15 : ν0.2 15 = tg) (fu : Nat) : ∀ (kk k m g : Int) (σ : cS) (ν : mS) (fu2 : Nat), FT σ e tg n k → FR σ ν e n k m g g → TA ν tg n → 1 ≤ k → k ≤ n - 1 → kk = g → g ≤ m → (g = 0 → m = 0) → 20 - kk ≤ (fu : Int) → n - k < (fu2 : Int) → (k < n - 1 ∨ 1 ≤ m) →
    ((c_fitL e fu (n - 1) 1 kk σ).1 = true ∧ c_mwrapsL fu2 n 1 k ν0 = true ∧ ∃ M gg : Int, FR (c_fitL e fu (n - 1) 1 kk σ).2 (tkr k ν) e n (n - 1) M gg gg ∧ 1 ≤ M ∧ FT (c_fitL e fu (n - 1) 1 kk σ).2 e tg n (n - 1)) ∨
    ((c_fitL e fu (n - 1) 1 kk σ).1 = false ∧ c_mwrapsL fu2 n 1 k ν0 = false) := by
  induction fu with
  | zero => intro kk k m g σ ν fu2 _ h _ _ _ _ _ _ hf; have := h.2.2.1; omega
  | succ fu ih =>
    intro kk k m g σ ν fu2 ht h ha hk hk2 hkg hgm hg0 hf hf2 hkm
    have sz := h.2.2.1
    have lm : ((σ.1 (e + 12)).length : Int) = m := h.1.1.1
    have ct : c_tagOf σ (e + 1) (σ.2.1 e 11) = mat tg k := by rw [ht.1]; exact ht.2.in (by omega) (by omega)
    cases fu2 with
    | zero => omega
    | succ fu2 =>
      unfold c_fitL
      rw [if_neg (show ¬ 19 ≤ kk by omega), c_mwrapsL, h15]
      by_cases ce : n - 1 ≤ k
      · have ek : k = n - 1 := by omega
        rw [ht.1, if_pos ce, if_pos ce, if_pos ek, if_neg (show ¬ (σ.1 (e + 12)).length ≤ 0 by omega)]
        refine Or.inl ⟨rfl, rfl, m, g, ?_, by omega, ?_⟩
        · rw [tkr_end (by rw [ha.1]; omega), ← ek]; exact h
        · rw [← ek]; exact ht
      · rw [ht.1, if_neg ce, if_neg ce, if_neg (show ¬ (1 : Int) = 0 by decide), if_neg (show ¬ (1 : Int) = 0 by decide)]
        unfold c_takeGroup
        rw [ct]
        by_cases c1 : mat tg k = 5590599
        · rw [if_pos c1, if_pos c1, ht.1, lm]
          have fr := h.ung hk (by omega) hg0
          have ft : FT (cI σ e 11 (k + 1)) e tg n (k + 1) := ⟨by simp [cI, upI], ht.2⟩
          have ta : TA (mfl (mar ν 40 g k) 39 (g + 1)) tg n := ⟨ha.1, ha.2⟩
          have o3 := h.2.2.2.2.1.2.2.1
          have m40 : mat ((mfl (mar ν 40 g k) 39 (g + 1)).2 40) g = k := by
            show mat ((ν.2 40).set g.toNat k) g = k
            exact mat_set (by have := h.2.2.2.1.2.2.2.1; omega)
          have res := gl_run (b := m) (g := g) (f := k) he hz hn h15 20 0 (k + 1) m (cI σ e 11 (k + 1)) _ 41 ft fr ta (by omega) (by omega) (by omega) (by omega) (Int.le_refl _) (fun i p q => (o3 i p q).2.1) (fun i p q => by omega) m40 hgm (by omega) (by omega)
          rw [show m - m = 0 by omega] at res
          have tk : tkr k ν = tkr (k + 1) (mfl (mar ν 40 g k) 39 (g + 1)) := by
            rw [tkr_step (by omega) (by rw [ha.1]; omega), ha.2 k (by omega) (by omega), c1, if_pos rfl, sz.2.1]
          rcases res with ⟨b1, b2, b3, b4, b5, b6, b7, M, ν', b8, b9, b10, b11⟩ | ⟨b1, b2⟩
          · rw [if_pos b1, if_neg b2, if_neg b3, if_pos b4, tk, b8]
            exact ih (kk + 1) _ M (g + 1) _ ν' fu2 b7 b9 b10 (by omega) (by omega) (by omega) b11 (fun q => by omega) (by omega) (by omega) (by omega)
          · rw [if_neg (by rw [b1]; decide)]
            refine Or.inr ⟨rfl, ?_⟩
            by_cases d1 : (c_mwrapsB n 1 41 (k + 1) 0 ν0).1 = 1
            · rw [if_pos d1]
            · rw [if_neg d1]
              by_cases d2 : (c_mwrapsB n 1 41 (k + 1) 0 ν0).2.2 = 0
              · rw [if_pos d2]
              · rw [if_neg d2, if_neg]
                rcases b2 with q | q | q
                · exact absurd q d1
                · exact absurd q d2
                · exact q
        · rw [if_neg c1, if_neg c1]
          exact Or.inr ⟨rfl, rfl⟩
