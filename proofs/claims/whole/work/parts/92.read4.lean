/-! read -/
theorem mread_eq {μ : mS} (h1 : (c_mscans (mfl μ 13 (-1))).1 = true) (h2 : c_mwraps (mfl (mfl (c_mscans (mfl μ 13 (-1))).2 0 0) 13 (-1)) = true) : c_mread μ = ((c_mwriteReport (c_mwritePrint (mreadT μ))).1 33, c_mwriteReport (c_mwritePrint (mreadT μ))) := by
  unfold c_mread mreadT
  rw [if_pos h1, if_pos h2]
  by_cases z : (c_mreadG 21 0 (c_mreadJ 21 0 (mfl (mfl (c_mtake (mfl (mfl (mfl (c_mscans (mfl μ 13 (-1))).2 0 0) 13 (-1)) 0 0)) 23 1) 1 0))).1 39 ≤ 0
  · rw [if_pos z, if_pos z]
  · rw [if_neg z, if_neg z]
theorem B_read {σ : cS} {μ : mS} (h : R σ μ) : mreadH μ ∧ agr IAE UOE (c_read σ) (c_mread μ) := by
  obtain ⟨w1, w2, hrow, htx, a3, a4, a5, a6⟩ := id h
  have kk := w1.2.2.2
  have ke0 : kd (54 - σ.2.2) = 0 := w1.fresh
  have kp : kd (54 - σ.2.2 + 1) = 2 := kE1 ke0
  have wm1 : wfm (mfl μ 13 (-1)) := wfm_f (k := 13) w2 (show (-1 : Int) ≤ -1 ∧ -1 ≤ 400 by omega)
  have sc := scan_eq h kp
  have hwc := w_read w1
  have wA := w_takeApart (x := 2) w1 kd2 kp
  have wN := w_mscans wm1
  -- what the scan leaves alone
  have yA : ∀ r, (r < 54 - σ.2.2 + 2 ∨ 54 - σ.2.2 + 12 ≤ r) → (c_takeApart σ 2 (54 - σ.2.2 + 1)).2.1 r = σ.1 r := fun r hr => y_takeApart (by simp; omega)
  have zA : ∀ p k, p ≠ 2 → (c_takeApart σ 2 (54 - σ.2.2 + 1)).2.2.1 p k = σ.2.1 p k := fun p k hpk => z_takeApart hpk
  have kA : (c_takeApart σ 2 (54 - σ.2.2 + 1)).2.2.2 = σ.2.2 := k_takeApart
  have f1N : ∀ k, k ∉ ([9, 10, 11, 12, 13, 14, 17, 19, 21] : List Nat) → (c_mscans (mfl μ 13 (-1))).2.1 k = μ.1 k := fun k hk => by
    have q := g1_mscans (σ := mfl μ 13 (-1)) (k := k) hk
    simp only [List.mem_cons, List.not_mem_nil, or_false, not_or] at hk
    rw [q]; simp [mfl, upF, hk]
  have f2N : ∀ k, k ∉ ([15, 16, 18, 20, 22, 99] : List Nat) → (c_mscans (mfl μ 13 (-1))).2.2 k = μ.2 k := fun k hk => g2_mscans (σ := mfl μ 13 (-1)) hk
  rcases sc.symm with ⟨s1, s2, s3⟩ | ⟨s1, s2, s3⟩
  · -- the text is not segments
    have nA : ¬ (c_takeApart σ 2 (54 - σ.2.2 + 1)).1 = -1 := by omega
    have nS : ¬ (c_mscans (mfl μ 13 (-1))).1 = true := by rw [s2]; decide
    have mh : mreadH μ := fun z => absurd z nS
    have hwm := w_mread w2 h.hT mh
    refine ⟨mh, ?_⟩
    unfold c_read at hwc ⊢
    unfold c_mread at hwm ⊢
    rw [if_neg nA] at hwc ⊢
    rw [if_neg nS] at hwm ⊢
    refine ⟨Or.inr (Or.inl rfl), R_keep (e := 54 - σ.2.2) h rfl hwc hwm (fun r hr => yA r (by omega)) (fun p k b1 b2 b3 => ?_) kA (fun k hk => ?_) (fun k hk => ?_) ?_, ?_, fun z => by cases z⟩
    · have e9 : (cI (c_takeApart σ 2 (54 - σ.2.2 + 1)).2 1 7 (c_takeApart σ 2 (54 - σ.2.2 + 1)).1).2.1 p k = (c_takeApart σ 2 (54 - σ.2.2 + 1)).2.2.1 p k := by simp only [cI, upI]; rw [if_neg b3]
      exact e9.trans (zA p k b1)
    · have q := f1N k (by simp; omega)
      show upF (c_mscans (mfl μ 13 (-1))).2.1 0 1 k = _
      simp only [upF]; rw [if_neg (by omega)]; exact q
    · exact f2N k (by simp; omega)
    · have e9 : (cI (c_takeApart σ 2 (54 - σ.2.2 + 1)).2 1 7 (c_takeApart σ 2 (54 - σ.2.2 + 1)).1).2.1 1 7 = (c_takeApart σ 2 (54 - σ.2.2 + 1)).1 := by simp [cI, upI]
      exact e9.trans s3.symm
    · simp [mfl, upF, ecode, IAE]
  · -- the text is segments
    generalize hA : c_takeApart σ 2 (54 - σ.2.2 + 1) = A at *
    generalize hN : c_mscans (mfl μ 13 (-1)) = Sm at *
    have wn1 : wfm (mfl (mfl Sm.2 0 0) 13 (-1)) := wfm_f (k := 13) (wfm_f (k := 0) wN (show (0 : Int) ≤ 0 ∧ 0 ≤ 2 by omega)) (show (-1 : Int) ≤ -1 ∧ -1 ≤ 400 by omega)
    have wn2 : wfm (mfl (mfl (mfl Sm.2 0 0) 13 (-1)) 0 0) := wfm_f (k := 0) wn1 (show (0 : Int) ≤ 0 ∧ 0 ≤ 2 by omega)
    obtain ⟨f1, f2, f3, f4, f5, f6, f7⟩ := s3
    have f14 : 0 ≤ Sm.2.1 14 ∧ Sm.2.1 14 ≤ 40 := wN.f14
    obtain ⟨ν', t1, t2, t3, t4, t5, t6, t7, t8, t9, t10⟩ := take_cp wn2
    have hl : FRl ν' := by
      unfold FRl
      rw [t6 34 (by omega) (by omega) (by omega) (by omega) (by omega), t6 35 (by omega) (by omega) (by omega) (by omega) (by omega), t6 36 (by omega) (by omega) (by omega) (by omega) (by omega), t6 40 (by omega) (by omega) (by omega) (by omega) (by omega), t6 41 (by omega) (by omega) (by omega) (by omega) (by omega)]
      exact ⟨wn2.ln (k := 34) (by decide), wn2.ln (k := 35) (by decide), wn2.ln (k := 36) (by decide), wn2.ln (k := 40) (by decide), wn2.ln (k := 41) (by decide)⟩
    have ft := fit_eq (σ := cI A.2 1 7 A.1) (e := 54 - σ.2.2) (ν1 := mfl (mfl Sm.2 0 0) 13 (-1)) (ν' := ν') ke0 f1 f7 f14.2 hl ⟨t3, fun x x0 x1 => (t7 x x0 (by have : x < Sm.2.1 14 := x1; show x ≤ Sm.2.1 14; omega)).1⟩
    -- what the fit leaves alone
    have yF : ∀ r, (r < 54 - σ.2.2 + 12 ∨ 54 - σ.2.2 + 30 ≤ r) → (c_fit (cI A.2 1 7 A.1) (54 - σ.2.2)).2.1 r = A.2.1 r := fun r hr => y_fit (by simp; omega)
    have zF : ∀ p k, ¬ (p = 54 - σ.2.2 ∧ k = 11) → (c_fit (cI A.2 1 7 A.1) (54 - σ.2.2)).2.2.1 p k = (cI A.2 1 7 A.1).2.1 p k := fun p k hpk => z_fit hpk
    have kF : (c_fit (cI A.2 1 7 A.1) (54 - σ.2.2)).2.2.2 = σ.2.2 := k_fit.trans kA
    have z17 : ∀ p k, ¬ (p = 1 ∧ k = 7) → (cI A.2 1 7 A.1).2.1 p k = A.2.2.1 p k := fun p k b => by simp only [cI, upI]; rw [if_neg b]
    have v17 : (cI A.2 1 7 A.1).2.1 1 7 = -1 := by simp [cI, upI]; exact s1
    by_cases cw : c_mwraps (mfl (mfl Sm.2 0 0) 13 (-1)) = true
    case neg =>
      have cf : ¬ (c_fit (cI A.2 1 7 A.1) (54 - σ.2.2)).1 = true := by rw [ft.1]; exact cw
      have mh : mreadH μ := fun z1 z2 => absurd (by rw [hN] at z2; exact z2) cw
      have hwm := w_mread w2 h.hT mh
      refine ⟨mh, ?_⟩
      unfold c_read at hwc ⊢
      unfold c_mread at hwm ⊢
      rw [hA, if_pos s1, if_neg cf] at hwc ⊢
      rw [hN, if_pos s2, if_neg cw] at hwm ⊢
      refine ⟨Or.inr (Or.inr rfl), R_keep (e := 54 - σ.2.2) h rfl hwc hwm (fun r hr => (yF r (by omega)).trans (yA r (by omega))) (fun p k b1 b2 b3 => (zF p k (by omega)).trans ((z17 p k b3).trans (zA p k b1))) kF (fun k hk => ?_) (fun k hk => ?_) ?_, ?_, fun z => by cases z⟩
      · have q := f1N k (by simp; omega)
        show upF (upF (upF Sm.2.1 0 0) 13 (-1)) 0 2 k = _
        simp only [upF]; rw [if_neg (by omega), if_neg (by omega), if_neg (by omega)]; exact q
      · exact f2N k (by simp; omega)
      · show (c_fit (cI A.2 1 7 A.1) (54 - σ.2.2)).2.2.1 1 7 = upF (upF (upF Sm.2.1 0 0) 13 (-1)) 0 2 13
        rw [zF 1 7 (by omega), v17]; rfl
      · simp [mfl, upF, ecode, IAE, UOE]
    -- all is well
    have cf : (c_fit (cI A.2 1 7 A.1) (54 - σ.2.2)).1 = true := by rw [ft.1]; exact cw
    obtain ⟨M, gg, fr, hM1, h4, r15⟩ := ft.2 cf
    have wF := w_fit (wf_I (p := 1) (k := 7) (v := A.1) wA (by rw [s1]; exact ⟨by decide, by decide⟩)) ke0
    have wt : wfm (c_mtake (mfl (mfl (mfl Sm.2 0 0) 13 (-1)) 0 0)) := w_mtake wn2 (wraps_t (σ := mfl (mfl Sm.2 0 0) 13 (-1)) wn1 cw)
    have T1 : ∀ k, k ∉ ([33, 39, 24, 27, 29] : List Nat) → (c_mtake (mfl (mfl (mfl Sm.2 0 0) 13 (-1)) 0 0)).1 k = (mfl (mfl (mfl Sm.2 0 0) 13 (-1)) 0 0).1 k := fun k hk => g1_mtake hk
    have T2 : ∀ k, k ∉ ([34, 35, 36, 40, 41, 25, 26, 28, 30, 31] : List Nat) → (c_mtake (mfl (mfl (mfl Sm.2 0 0) 13 (-1)) 0 0)).2 k = Sm.2.2 k := fun k hk => g2_mtake hk
    have L1 : ∀ k, k ≠ 33 → k ≠ 39 → (c_mtake (mfl (mfl (mfl Sm.2 0 0) 13 (-1)) 0 0)).1 k = ν'.1 k := fun k b1 b2 => by
      rw [t1, g1_mtakeL5 (by simp [b1, b2])]; simp [mfl, upF, b1, b2]
    have L2 : ∀ k, k ∉ ([34, 35, 36, 40, 41] : List Nat) → (c_mtake (mfl (mfl (mfl Sm.2 0 0) 13 (-1)) 0 0)).2 k = ν'.2 k := fun k hk => by
      rw [t1, g5 hk]; rfl
    rw [← t1] at fr
    have t3' : ν'.1 24 = Sm.2.1 14 := t3
    have t4' : ν'.1 27 = Sm.2.1 17 := t4
    have t5' : ν'.1 29 = Sm.2.1 19 := t5
    generalize hT : c_mtake (mfl (mfl (mfl Sm.2 0 0) 13 (-1)) 0 0) = μt at *
    have n24 : μt.1 24 = Sm.2.1 14 := (L1 24 (by omega) (by omega)).trans t3'
    have n27 : μt.1 27 = Sm.2.1 17 := (L1 27 (by omega) (by omega)).trans t4'
    have n29 : μt.1 29 = Sm.2.1 19 := (L1 29 (by omega) (by omega)).trans t5'
    have m25 : μt.2 25 = ν'.2 25 := L2 25 (by decide)
    have m26 : μt.2 26 = ν'.2 26 := L2 26 (by decide)
    have m28 : μt.2 28 = ν'.2 28 := L2 28 (by decide)
    have m30 : μt.2 30 = ν'.2 30 := L2 30 (by decide)
    have m31 : μt.2 31 = ν'.2 31 := L2 31 (by decide)
    have hpt : PartR (c_fit (cI A.2 1 7 A.1) (54 - σ.2.2)).2 μt (54 - σ.2.2) (Sm.2.1 21) := by
      unfold PartR
      rw [yF _ (by omega), yF _ (by omega), yF _ (by omega), yF _ (by omega), yF _ (by omega), n24, n27, n29, m25, m26, m28, m30, m31]
      exact ⟨rowIs_pt f1 (fun x x0 x1 => (t7 x x0 (show x ≤ Sm.2.1 14 by omega)).1), rowIs_pt f2 (fun x x0 x1 => (t7 x x0 (show x ≤ Sm.2.1 14 by omega)).2), rowIs_pt f3 (fun x x0 x1 => t8 x x0 (show x ≤ Sm.2.1 17 by omega)), rowIs_pt f4 (fun x x0 x1 => t9 x x0 (show x ≤ Sm.2.1 19 by omega)), rowIs_pt f5 (fun x x0 x1 => t10 x x0 x1), partsOK_pt f6 (fun x x0 x1 => (t7 x x0 x1).1) (fun x x0 x1 => (t7 x x0 x1).2) t8 t9⟩
    have hTab : ∀ t, 0 ≤ t → t ≤ 3 → TabR (c_fit (cI A.2 1 7 A.1) (54 - σ.2.2)).2 μt t := fun t t0 t1 => by
      have tt : 72 ≤ tb t := by unfold tb; omega
      exact TabR_congr (σ := σ) (μ := μ) (fun r b1 b2 => (yF r (by omega)).trans (yA r (by omega))) ((zF _ _ (by omega)).trans ((z17 _ _ (by omega)).trans (zA _ _ (by omega)))) ((zF _ _ (by omega)).trans ((z17 _ _ (by omega)).trans (zA _ _ (by omega)))) (fun k b1 b2 => (T2 k (by simp; omega)).trans (f2N k (by simp; omega))) (a3 t t0 t1)
    have hg9 : gg ≤ 9 := by
      have l22 := fr.2.1.1.1
      have c22 := wF.2.1 (54 - σ.2.2 + 22) (kE22 ke0)
      rw [cap0_22 ke0] at c22
      omega
    have e12 : 12 ≤ 54 - σ.2.2 := by omega
    have jd := judged (n := Sm.2.1 14) ke0 (by rw [kF]) wt hpt hTab fr n24 f14.2 h4 hg9
    obtain ⟨j1, j2, j3, j4, j5, j6, j7, j8, j9, j10, j11, j12, j13, j14⟩ := jd
    have mT' : mreadT μ = muP μt := by
      unfold mreadT
      rw [hN, hT]; rfl
    generalize hF : (c_fit (cI A.2 1 7 A.1) (54 - σ.2.2)).2 = σf at *
    generalize hJ : jdS σf (54 - σ.2.2) = σJ at *
    -- the state before the writing
    have W1 : ∀ r, r ≠ 3 → (c_xempty (cI (csw σJ) 1 6 1) 2).1 r = σJ.1 r := fun r hr => by show upR σJ.1 3 [] r = _; exact upR_ne hr
    have W3 : (c_xempty (cI (csw σJ) 1 6 1) 2).1 3 = [] := by show upR σJ.1 3 [] 3 = _; exact upR_same
    have Wi : ∀ p k, ¬ (p = 1 ∧ k = 6) → (c_xempty (cI (csw σJ) 1 6 1) 2).2.1 p k = σJ.2.1 p k := fun p k b => by show upI σJ.2.1 1 6 1 p k = _; simp only [upI]; rw [if_neg b]
    have W6 : (c_xempty (cI (csw σJ) 1 6 1) 2).2.1 1 6 = 1 := by show upI σJ.2.1 1 6 1 1 6 = _; exact upI_same
    have Wk : (c_xempty (cI (csw σJ) 1 6 1) 2).2.2 = 54 - σ.2.2 := by show 54 - σJ.2.2 = _; rw [j8, kF]
    have wr := written (σ := c_xempty (cI (csw σJ) 1 6 1) 2) (μ := muP μt) (e := 54 - σ.2.2) (N := Sm.2.1 21) (M := M) (gg := gg) e12 j1 (PartR_cl j2 (fun r b1 b2 => W1 r (by omega))) (RB_congr j4 (fun r b1 b2 => W1 r (by omega)) (fun _ _ _ => rfl) (fun _ _ _ => rfl)) (by rw [Wi _ _ (by omega)]; exact j6) (by rw [j10 24 (by decide), n24]; omega)
    obtain ⟨o1, o2, o3, o4, o5, o6, o7, o8⟩ := wr
    have mh : mreadH μ := fun _ _ => by rw [mT']; exact ⟨o1, o2⟩
    have hwm := w_mread w2 h.hT mh
    refine ⟨mh, ?_⟩
    have er : c_read σ = (none, c_messageCount (c_writeReport (c_writePrint (c_xempty (cI (csw σJ) 1 6 1) 2) 6 (54 - σ.2.2 + 1)) 9 (54 - σ.2.2)) (54 - σ.2.2), c_writeReport (c_writePrint (c_xempty (cI (csw σJ) 1 6 1) 2) 6 (54 - σ.2.2 + 1)) 9 (54 - σ.2.2)) := by
      unfold c_read
      rw [hA, if_pos s1, if_pos cf, hF]
      have ej : c_readI 2002 0 (c_judgeEnds σf (54 - σ.2.2)) = σJ := hJ
      rw [ej]
    have ew : c_mread μ = ((c_mwriteReport (c_mwritePrint (muP μt))).1 33, c_mwriteReport (c_mwritePrint (muP μt))) := by
      rw [mread_eq (by rw [hN]; exact s2) (by rw [hN]; exact cw), mT']
    rw [er] at hwc ⊢
    rw [ew] at hwm ⊢
    have hwc' : wf (c_writeReport (c_writePrint (c_xempty (cI (csw σJ) 1 6 1) 2) 6 (54 - σ.2.2 + 1)) 9 (54 - σ.2.2)) := hwc
    have hwm' : wfm (c_mwriteReport (c_mwritePrint (muP μt))) := hwm
    generalize hσR : c_writeReport (c_writePrint (c_xempty (cI (csw σJ) 1 6 1) 2) 6 (54 - σ.2.2 + 1)) 9 (54 - σ.2.2) = σR at *
    generalize hμR : c_mwriteReport (c_mwritePrint (muP μt)) = μR at *
    have rR : ∀ r, r ≠ 3 → r ≠ 7 → r ≠ 10 → σR.1 r = σJ.1 r := fun r b1 b2 b3 => (o5 r b2 b3).trans (W1 r b1)
    have iR : ∀ p k, ¬ (p = 1 ∧ k = 6) → σR.2.1 p k = σJ.2.1 p k := fun p k b => by rw [o6]; exact Wi p k b
    have kR : σR.2.2 = 54 - σ.2.2 := by rw [o6]; exact Wk
    obtain ⟨x1, x2, x3, x4, x5, x6, ⟨x7, x7a, x7b, x7c, x7d⟩, x8⟩ := j4
    have M33 : μR.1 33 = M := (o7 33 (by decide)).trans x7
    have G39 : μR.1 39 = gg := (o7 39 (by decide)).trans j14
    have mv : ∀ k, 24 ≤ k → k ≤ 42 → μR.1 k = (muP μt).1 k := fun k b1 b2 => o7 k (by simp; omega)
    have av : ∀ k, k ≤ 42 → μR.2 k = (muP μt).2 k := fun k b2 => o8 k (by simp; omega)
    refine ⟨Or.inl rfl, ⟨hwc', hwm', ?_, ?_, fun t t0 t1 => ?_, ?_, ?_, Or.inr ⟨⟨Sm.2.1 21, ?_⟩, ?_, ?_, ?_, ?_, ?_, ?_, ?_, ?_, o3, o4⟩⟩, ?_, fun _ => ?_⟩
    · show rowIs (σR.1 3) (μR.2 2) 0 (μR.1 1)
      rw [o5 3 (by decide) (by decide), W3, o7 1 (by decide), j11]; exact rowIs_nil
    · intro i i0 i1
      rw [o7 1 (by decide), j11] at i1; omega
    · have tt : 72 ≤ tb t := by unfold tb; omega
      exact TabR_congr (σ := σJ) (μ := muP μt) (fun r b1 b2 => rR r (by omega) (by omega) (by omega)) (iR _ _ (by omega)) (iR _ _ (by omega)) (fun k b1 b2 => av k (by omega)) (j3 t t0 t1)
    · show σR.2.1 1 6 = μR.1 23
      rw [o6, W6, o7 23 (by decide), j12]
    · show σR.2.1 1 7 = μR.1 13
      rw [iR 1 7 (by omega), j9 1 7 (by omega) (by omega), o7 13 (by decide), j10 13 (by decide), T1 13 (by decide), zF 1 7 (by omega), v17]; rfl
    · show PartR σR μR σR.2.2 (Sm.2.1 21)
      rw [kR]
      exact PartR_mo (PartR_cl j2 (fun r b1 b2 => rR r (by omega) (by omega) (by omega))) ⟨mv 24 (by omega) (by omega), mv 27 (by omega) (by omega), mv 29 (by omega) (by omega)⟩ (fun k b1 b2 => av k (by omega))
    · show rowIs (σR.1 (σR.2.2 + 12)) (μR.2 34) 0 (μR.1 33)
      rw [kR, rR _ (by omega) (by omega) (by omega), av 34 (by omega), M33]; exact x1
    · show rowIs (σR.1 (σR.2.2 + 14)) (μR.2 35) 0 (μR.1 33)
      rw [kR, rR _ (by omega) (by omega) (by omega), av 35 (by omega), M33]; exact j5
    · show rowIs (σR.1 (σR.2.2 + 16)) (μR.2 36) 0 (μR.1 33)
      rw [kR, rR _ (by omega) (by omega) (by omega), av 36 (by omega), M33]; exact x2
    · show rowIs (σR.1 (σR.2.2 + 18)) (μR.2 37) 0 (μR.1 33)
      rw [kR, rR _ (by omega) (by omega) (by omega), av 37 (by omega), M33]; exact x3
    · show rowIs (σR.1 (σR.2.2 + 20)) (μR.2 38) 0 (μR.1 33)
      rw [kR, rR _ (by omega) (by omega) (by omega), av 38 (by omega), M33]; exact x4
    · show ((σR.1 (σR.2.2 + 22)).length : Int) = μR.1 39
      rw [kR, rR _ (by omega) (by omega) (by omega), G39]; exact x5.1
    · show rowIs (σR.1 (σR.2.2 + 28)) (μR.2 42) 0 (μR.1 39)
      rw [kR, rR _ (by omega) (by omega) (by omega), av 42 (by omega), G39]; exact x6
    · show σR.2.1 σR.2.2 10 = μR.1 32
      rw [kR, iR _ _ (by omega), mv 32 (by omega) (by omega)]; exact j6
    · show μR.1 0 = ecode IAE UOE none
      rw [o7 0 (by decide), j10 0 (by decide), T1 0 (by decide)]; rfl
    · show ((σR.1 (54 - σ.2.2 + 12)).length : Int) = μR.1 33
      rw [rR _ (by omega) (by omega) (by omega), M33]; exact x1.1
theorem BIS_all : BIS := fun σ μ h => ⟨B_type h, B_wipe h, B_length h, B_fault h, B_slot h, B_open h, B_close h, B_clear h, fun a _ => B_interchange h a, fun a b _ _ => B_message h a b, fun a _ => B_group h a, fun s e c i _ _ _ _ => B_segment h s e c i, fun a _ => B_print h a, fun a _ => B_report h a, B_read h⟩
