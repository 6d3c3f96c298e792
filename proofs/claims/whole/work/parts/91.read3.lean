/-! read: the writing as a whole -/
theorem RB_congr {σ σ' : cS} {μ μ' : mS} {e : Nat} {M gg : Int} (h : RB σ μ e M gg) (hr : ∀ r, e + 12 ≤ r → r ≤ e + 28 → σ'.1 r = σ.1 r) (h1 : ∀ k, 24 ≤ k → k ≤ 42 → μ'.1 k = μ.1 k) (h2 : ∀ k, 24 ≤ k → k ≤ 42 → μ'.2 k = μ.2 k) : RB σ' μ' e M gg := by
  unfold RB at h ⊢
  rw [hr (e + 12) (by omega) (by omega), hr (e + 16) (by omega) (by omega), hr (e + 18) (by omega) (by omega), hr (e + 20) (by omega) (by omega), hr (e + 22) (by omega) (by omega), hr (e + 28) (by omega) (by omega), h1 33 (by omega) (by omega), h1 24 (by omega) (by omega), h2 34 (by omega) (by omega), h2 35 (by omega) (by omega), h2 36 (by omega) (by omega), h2 37 (by omega) (by omega), h2 38 (by omega) (by omega), h2 40 (by omega) (by omega), h2 42 (by omega) (by omega)]
  exact h
theorem written {σ : cS} {μ : mS} {e : Nat} {N M gg : Int} (he : 12 ≤ e) (hm : wfm μ) (hp : PartR σ μ e N) (rb : RB σ μ e M gg) (hc : σ.2.1 e 10 = μ.1 32) (hS : 1 ≤ μ.1 24) :
    mok (c_mwritePrint μ) ∧ mok (c_mwriteReport (c_mwritePrint μ)) ∧ rowIs ((c_writeReport (c_writePrint σ 6 (e + 1)) 9 e).1 7) ((c_mwriteReport (c_mwritePrint μ)).2 49) 0 ((c_mwriteReport (c_mwritePrint μ)).1 48) ∧ rowIs ((c_writeReport (c_writePrint σ 6 (e + 1)) 9 e).1 10) ((c_mwriteReport (c_mwritePrint μ)).2 51) 0 ((c_mwriteReport (c_mwritePrint μ)).1 50) ∧
    (∀ r, r ≠ 7 → r ≠ 10 → (c_writeReport (c_writePrint σ 6 (e + 1)) 9 e).1 r = σ.1 r) ∧ (c_writeReport (c_writePrint σ 6 (e + 1)) 9 e).2 = σ.2 ∧ (∀ k, k ∉ ([48, 50, 52] : List Nat) → (c_mwriteReport (c_mwritePrint μ)).1 k = μ.1 k) ∧ (∀ k, k ∉ ([49, 51] : List Nat) → (c_mwriteReport (c_mwritePrint μ)).2 k = μ.2 k) := by
  have tot := hp.2.2.2.2.2.2.1
  have nn := hp.2.2.2.2.2.1
  -- the print
  have p1 : PartR (cemp σ (6 + 1)) (mfl (mfl μ 52 0) 48 0) e N := PartR_mo (PartR_cl hp (fun r a b => by show upR σ.1 7 [] r = _; exact upR_ne (by omega))) ⟨rfl, rfl, rfl⟩ (fun k a b => rfl)
  have w1 : wfm (mfl (mfl μ 52 0) 48 0) := wfm_f (k := 48) (wfm_f (k := 52) hm (show (0 : Int) ≤ 0 ∧ 0 ≤ 1 by omega)) (show (0 : Int) ≤ 0 ∧ 0 ≤ 1200 by omega)
  have s7 : (cemp σ (6 + 1)).1 (6 + 1) = [] := by simp [cemp, upR]
  have pp0 : PP (cemp σ (6 + 1)) (mfl (mfl μ 52 0) 48 0) (cemp σ (6 + 1)) (mfl (mfl μ 52 0) 48 0) 6 0 :=
    ⟨Or.inl ⟨rfl, rfl, by rw [s7]; exact rowIs_nil, hm.ln (k := 49) (by decide)⟩, by rw [s7]; rfl, fun _ _ => rfl, rfl, fun _ _ => rfl, fun _ _ => rfl⟩
  have m26 : mat (μ.2 26) 0 = 0 := hp.2.2.2.2.2.2.2.2.1.1
  have m28 : mat (μ.2 28) 0 = 0 := hp.2.2.2.2.2.2.2.2.2.1.1
  have m30 : mat (μ.2 30) 0 = 0 := hp.2.2.2.2.2.2.2.2.2.2.1
  have e28 : mat (μ.2 28) (μ.1 27) = μ.1 29 := hp.2.2.2.2.2.2.2.2.2.1.2.1
  have e30 : mat (μ.2 30) (μ.1 29) = N := hp.2.2.2.2.2.2.2.2.2.2.2.1
  have ph : PHI (mfl (mfl μ 52 0) 48 0) (μ.1 27) = μ.1 29 + 2 * N := by
    show mat (μ.2 28) (μ.1 27) + 2 * mat (μ.2 30) (mat (μ.2 28) (μ.1 27)) = _; rw [e28, e30]
  have ph0 : PHI (mfl (mfl μ 52 0) 48 0) (mat (μ.2 26) 0) = 0 := by
    show mat (μ.2 28) (mat (μ.2 26) 0) + 2 * mat (μ.2 30) (mat (μ.2 28) (mat (μ.2 26) 0)) = 0; rw [m26, m28, m30]; rfl
  have f24 := hm.f24
  obtain ⟨l1, q1, q2⟩ := s_w (q := 6) he p1 w1 (by show 4 * μ.1 24 + PHI (mfl (mfl μ 52 0) 48 0) (μ.1 27) ≤ 800; rw [ph]; omega) 2001 0 0 _ _ 41 pp0 (Int.le_refl 0) (by show 0 ≤ μ.1 24; omega) (by show μ.1 24 - 0 < _; omega) (by show μ.1 24 - 0 < _; omega) (by show (0 : Int) ≤ 4 * 0 + PHI (mfl (mfl μ 52 0) 48 0) (mat (μ.2 26) 0); rw [ph0]; omega)
  have q2' : l1 ≤ 4 * μ.1 24 + PHI (mfl (mfl μ 52 0) 48 0) (μ.1 27) := q2
  rw [ph] at q2'
  have ec : c_writePrintL 6 (e + 1) 2001 0 (cemp σ (6 + 1)) = c_writePrint σ 6 (e + 1) := rfl
  have em : c_mwritePrintL 41 0 (mfl (mfl μ 52 0) 48 0) = c_mwritePrint μ := rfl
  rw [ec, em] at q1
  have Q1 : Q6 (mfl (mfl μ 52 0) 48 0) (c_mwritePrint μ) := qy_mwritePrintL 41 0 _
  have Q1b := Q1.2.1 rfl
  obtain ⟨pw, pl, pr, ps, pf, pa⟩ := q1
  have pw6 : (c_mwritePrint μ).1 52 = 0 ∧ rowIs ((c_writePrint σ 6 (e + 1)).1 (6 + 1)) ((c_mwritePrint μ).2 49) 0 ((c_mwritePrint μ).1 48) := by
    rcases pw with z | z
    · exact ⟨z.2.1, z.2.2.1⟩
    · exact absurd z.1 (by decide)
  have n48 : (c_mwritePrint μ).1 48 = l1 := pw6.2.1.symm.trans pl
  have n50 : (c_mwritePrint μ).1 50 = μ.1 50 := Q1b.1
  have mokW : mok (c_mwritePrint μ) := ⟨by rw [n48]; omega, by rw [n50]; exact hm.f50.2⟩
  have wW : wfm (c_mwritePrint μ) := w_mwritePrint hm mokW
  have fW : ∀ k, k ∉ ([48, 50, 52] : List Nat) → (c_mwritePrint μ).1 k = μ.1 k := fun k hk => by
    simp only [List.mem_cons, List.not_mem_nil, or_false, not_or] at hk
    rw [pf k (by simp [hk])]; simp [mfl, upF, hk]
  have aW : ∀ k, k ∉ ([49, 51] : List Nat) → (c_mwritePrint μ).2 k = μ.2 k := fun k hk => pa k hk
  have rW : ∀ r, r ≠ 7 → (c_writePrint σ 6 (e + 1)).1 r = σ.1 r := fun r hr => (pr r hr).trans (by show upR σ.1 7 [] r = _; exact upR_ne hr)
  have sW : (c_writePrint σ 6 (e + 1)).2 = σ.2 := ps
  -- the report
  have w2 : wfm (mfl (mfl (c_mwritePrint μ) 52 1) 50 0) := wfm_f (k := 50) (wfm_f (k := 52) wW (show (0 : Int) ≤ 1 ∧ 1 ≤ 1 by omega)) (show (0 : Int) ≤ 0 ∧ 0 ≤ 2400 by omega)
  have F2 : ∀ k, k ∉ ([48, 50, 52] : List Nat) → (mfl (mfl (c_mwritePrint μ) 52 1) 50 0).1 k = μ.1 k := fun k hk => by
    have := fW k hk
    simp only [List.mem_cons, List.not_mem_nil, or_false, not_or] at hk
    simp [mfl, upF, hk]; exact this
  have R2 : ∀ r, r ≠ 7 → r ≠ 10 → (cemp (c_writePrint σ 6 (e + 1)) (9 + 1)).1 r = σ.1 r := fun r h7 h10 => by
    show upR (c_writePrint σ 6 (e + 1)).1 10 [] r = _
    rw [upR_ne h10]; exact rW r h7
  have p2 : PartR (cemp (c_writePrint σ 6 (e + 1)) (9 + 1)) (mfl (mfl (c_mwritePrint μ) 52 1) 50 0) e N := PartR_mo (PartR_cl hp (fun r a b => R2 r (by omega) (by omega))) ⟨F2 24 (by decide), F2 27 (by decide), F2 29 (by decide)⟩ (fun k a b => aW k (by simp; omega))
  have rb2 : RB (cemp (c_writePrint σ 6 (e + 1)) (9 + 1)) (mfl (mfl (c_mwritePrint μ) 52 1) 50 0) e M gg := RB_congr rb (fun r a b => R2 r (by omega) (by omega)) (fun k a b => F2 k (by simp; omega)) (fun k a b => aW k (by simp; omega))
  have s10 : (cemp (c_writePrint σ 6 (e + 1)) (9 + 1)).1 (9 + 1) = [] := by simp [cemp, upR]
  have pp2 : PP (cemp (c_writePrint σ 6 (e + 1)) (9 + 1)) (mfl (mfl (c_mwritePrint μ) 52 1) 50 0) (cemp (c_writePrint σ 6 (e + 1)) (9 + 1)) (mfl (mfl (c_mwritePrint μ) 52 1) 50 0) 9 0 :=
    ⟨Or.inr ⟨rfl, (show ¬ (1 : Int) = 0 by decide), by rw [s10]; exact rowIs_nil, wW.ln (k := 51) (by decide)⟩, by rw [s10]; rfl, fun _ _ => rfl, rfl, fun _ _ => rfl, fun _ _ => rfl⟩
  have b24 : (mfl (mfl (c_mwritePrint μ) 52 1) 50 0).1 24 = μ.1 24 := F2 24 (by decide)
  have jc := J_comp p2 (s := 0) (u := 2) (Int.le_refl 0) (by omega) (by omega)
  have sz := ref_sz p2 (s := 0) (u := 2) (Int.le_refl 0) (by omega) (by omega)
  have psi := PSI_mo p2 (s := 0) (t := 0 + 1) (Int.le_refl 0) (by omega) (by omega)
  have f32 := hm.f32
  have e32 : (c_mwritePrint μ).1 32 = μ.1 32 := fW 32 (by decide)
  have cod : c_ecode (cemp (c_writePrint σ 6 (e + 1)) (9 + 1)) e = μ.1 32 := by
    show (c_writePrint σ 6 (e + 1)).2.1 e 10 = μ.1 32
    rw [sW]; exact hc
  have cq : capq 9 = 1060 := by decide
  obtain ⟨l2, u1, u2⟩ := line_a (v := 5587785) (u := μ.1 32) pp2 he p2 (by omega) (by omega) jc.2 (by omega) (by omega) (by omega)
  obtain ⟨x1, x2, x3, x4, x5, x6, ⟨x7, x7a, x7b, x7c, x7d⟩, x8, x9, x10, x11, x12⟩ := id rb2
  obtain ⟨l3, v1, v2⟩ := rep_w he p2 w2 rb2 2001 (-1) 0 l2 1 _ _ 21 u1 (Int.le_refl 0) x7a (by omega) (Or.inr rfl) (fun z => by
    have y9 := x9 0 (Int.le_refl 0) z
    have y11 := x11 0 (Int.le_refl 0) z
    exact ⟨y11.1, y9.1, fun w => (y11.2.2 (by omega)).1⟩) (Int.le_refl 1) (by omega) (by
    rw [show (0 : Int) + 1 = 1 by rfl] at sz psi; omega) (by omega) (by omega)
  have ec2 : c_writeReportL 9 e 2001 (-1) 0 (cadd (c_putVerdict (cemp (c_writePrint σ 6 (e + 1)) (9 + 1)) 9 5587785 (e + 1) (c_mcomponent (mfl (mfl (c_mwritePrint μ) 52 1) 50 0) 0 2) (μ.1 32)) (9 + 1) 39) = c_writeReport (c_writePrint σ 6 (e + 1)) 9 e := by
    unfold c_writeReport c_reference
    rw [jc.1, cod]
  have em2 : c_mwriteReportL 21 (-1) 0 (c_mwriteLine (mfl (mfl (c_mwritePrint μ) 52 1) 50 0) 5587785 (c_mcomponent (mfl (mfl (c_mwritePrint μ) 52 1) 50 0) 0 2) (μ.1 32) (-1)) = c_mwriteReport (c_mwritePrint μ) := by
    unfold c_mwriteReport
    rw [e32]
  rw [ec2, em2] at v1
  have Q2 : Q6 (mfl (mfl (c_mwritePrint μ) 52 1) 50 0) (c_mwriteReport (c_mwritePrint μ)) := by
    rw [← em2]; exact qx_mwriteReportL (qx_mwriteLine (Q6.rf _))
  have Q2b := Q2.2.2 (show ¬ (1 : Int) = 0 by decide)
  obtain ⟨pw', pl', pr', ps', pf', pa'⟩ := v1
  have pw9 : rowIs ((c_writeReport (c_writePrint σ 6 (e + 1)) 9 e).1 (9 + 1)) ((c_mwriteReport (c_mwritePrint μ)).2 51) 0 ((c_mwriteReport (c_mwritePrint μ)).1 50) := by
    rcases pw' with z | z
    · exact absurd z.1 (by decide)
    · exact z.2.2.1
  have k48 : (c_mwriteReport (c_mwritePrint μ)).1 48 = (c_mwritePrint μ).1 48 := Q2b.1
  have k49 : (c_mwriteReport (c_mwritePrint μ)).2 49 = (c_mwritePrint μ).2 49 := Q2b.2
  have k50 : (c_mwriteReport (c_mwritePrint μ)).1 50 = l3 := pw9.1.symm.trans pl'
  refine ⟨mokW, ⟨by rw [k48, n48]; omega, by rw [k50]; omega⟩, ?_, pw9, fun r h7 h10 => (pr' r h10).trans (R2 r h7 h10), ps'.trans sW, fun k hk => ?_, fun k hk => (pa' k hk).trans (aW k hk)⟩
  · rw [k48, k49, pr' 7 (by decide)]
    show rowIs (upR (c_writePrint σ 6 (e + 1)).1 10 [] 7) _ _ _
    rw [upR_ne (by decide)]; exact pw6.2
  · have := F2 k hk
    simp only [List.mem_cons, List.not_mem_nil, or_false, not_or] at hk
    rw [pf' k (by simp [hk])]; exact this
