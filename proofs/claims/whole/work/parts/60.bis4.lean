/-! slot, open, close, clear -/
theorem ch_3 {μ : mS} {t g : Int} (hT : mT μ t) (h1 : g < mat (μ.2 3) t) (hg : 0 ≤ g → mat (μ.2 4) (24 * t + g) = 0) : ch μ t g ≤ 3 := by
  unfold ch
  by_cases c0 : g < 0
  · rw [if_pos c0]; omega
  rw [if_neg c0]
  by_cases c1 : mi μ t g < 0
  · rw [if_pos c1]; omega
  rw [if_neg c1]
  by_cases c2 : mi μ t (mi μ t g) < 0
  · rw [if_pos c2]; omega
  rw [if_neg c2]
  rcases hT g (by omega) h1 (hg (by omega)) with q | q | q
  · exact absurd q c1
  · exact absurd q c2
  · rw [if_pos q]; omega
theorem og_eq {μ : mS} {t : Int} (h : ch μ t (mat (μ.2 8) t) ≤ 3) : c_mopenGroups μ t = ch μ t (mat (μ.2 8) t) := by
  unfold c_mopenGroups
  unfold ch at h ⊢
  unfold c_mopenGroupsL
  by_cases c0 : mat (μ.2 8) t < 0
  · rw [if_pos c0, if_pos c0]
  rw [if_neg c0] at h ⊢
  rw [if_neg c0]
  unfold c_mopenGroupsL
  by_cases c1 : mi μ t (mat (μ.2 8) t) < 0
  · rw [if_pos c1, if_pos c1]; rfl
  rw [if_neg c1] at h ⊢
  rw [if_neg c1]
  unfold c_mopenGroupsL
  by_cases c2 : mi μ t (mi μ t (mat (μ.2 8) t)) < 0
  · rw [if_pos c2, if_pos c2]; rfl
  rw [if_neg c2] at h ⊢
  rw [if_neg c2]
  unfold c_mopenGroupsL
  by_cases c3 : mi μ t (mi μ t (mi μ t (mat (μ.2 8) t))) < 0
  · rw [if_pos c3, if_pos c3]; rfl
  · rw [if_neg c3] at h; omega
theorem agr_a {σ : cS} {μ : mS} {b : String} (h : R σ μ) : agr IAE b (some "java/lang/IllegalArgumentException", 0, σ) (0, mfl μ 0 1) := ⟨Or.inr (Or.inl rfl), R_thr h (by omega), by simp [mfl, upF, ecode, IAE], fun q => by cases q⟩
theorem agr_s {σ : cS} {μ : mS} (h : R σ μ) : agr IAE ISE (some "java/lang/IllegalStateException", 0, σ) (0, mfl (mfl μ 0 0) 0 2) := ⟨Or.inr (Or.inr rfl), R_thr (R_thr h (by omega)) (by omega), by simp [mfl, upF, ecode, IAE, ISE], fun q => by cases q⟩
theorem agrB_a {σ : cS} {μ : mS} (h : R σ μ) : agrB IAE IAE (some "java/lang/IllegalArgumentException", 0, σ) (false, mfl μ 0 1) := ⟨Or.inr (Or.inl rfl), R_thr h (by omega), by simp [mfl, upF, ecode, IAE], fun q => by cases q⟩
theorem misT {μ : mS} {t : Int} (h : 0 ≤ t ∧ t < 4) : c_misType μ t = true := by
  unfold c_misType; rw [if_neg (by omega), if_neg (by omega)]
theorem misF {μ : mS} {t : Int} (h : ¬ (0 ≤ t ∧ t < 4)) : ¬ c_misType μ t = true := by
  unfold c_misType
  by_cases c : t < 0
  · rw [if_pos c]; decide
  · rw [if_neg c, if_pos (by omega)]; decide
/-- a segment is added -/
theorem slot_add {σ : cS} {μ : mS} {t v b c : Int} (h : R σ μ) (h0 : 0 ≤ t) (h1 : t ≤ 3) (hv : 0 < v ∧ v ≤ 16777215) (hb : 0 ≤ b ∧ b ≤ 1) (hc : 1 ≤ c ∧ c ≤ 99) (hl : mat (μ.2 3) t < 24) : agr IAE ISE (none, (c_tadd σ (tb t) v b c).1, (c_tadd σ (tb t) v b c).2) ((c_madd (mfl (mfl μ 0 0) 0 0) t v b c).1, (c_madd (mfl (mfl μ 0 0) 0 0) t v b c).2) := by
  have hr : R σ (mfl (mfl μ 0 0) 0 0) := R_thr (R_thr h (by omega)) (by omega)
  have tr := hr.2.2.2.2.1 t h0 h1
  have kt := tb_kd h0 h1
  obtain ⟨a1, a2, a3, a4, a5, a6, a7⟩ := id tr
  have e3 : mat ((mfl (mfl μ 0 0) 0 0).2 3) t = mat (μ.2 3) t := rfl
  have hwm := w_madd (b := b) (c := c) (v := v) hr.2.1 ⟨h0, h1⟩ (by omega) hb (by omega) (show mat ((mfl (mfl μ 0 0) 0 0).2 3) t < 24 from hl)
  have hwc := w_tadd (g := v) (u := b) (m := c) h.1 kt (by omega) hb (by omega)
  have g3 := h.2.1.a3 t
  rw [madd_2] at hwm ⊢
  rw [madd_1 hr.2.1 h0 h1]
  have y1 : ((σ.1 (tb t + 1)).length : Int) = mat (μ.2 3) t := a1.1
  have y2 : ((σ.1 (tb t + 3)).length : Int) = mat (μ.2 3) t := a2.1
  have y3 : ((σ.1 (tb t + 5)).length : Int) = mat (μ.2 3) t := a3.1
  have y4 : ((σ.1 (tb t + 7)).length : Int) = mat (μ.2 3) t := a4.1
  rw [tadd_eq kt hb (fun r q => by rcases q with q | q | q | q <;> subst q <;> omega)] at hwc ⊢
  refine ⟨Or.inl rfl, R_tab hr h0 h1 hwc hwm (fun r q => ?_) (fun p k q => rfl) rfl (fun k q => rfl) (fun k q => ?_) (fun k q1 q2 x x1 x2 => ?_) (fun u u0 u1 u2 => ⟨?_, ?_⟩) ?_, ?_, fun _ => by rw [a1.1]⟩
  · simp [upR, show r ≠ tb t + 1 by omega, show r ≠ tb t + 3 by omega, show r ≠ tb t + 5 by omega, show r ≠ tb t + 7 by omega]
  · simp [upF, show k ≠ 3 by omega, show k ≠ 4 by omega, show k ≠ 5 by omega, show k ≠ 6 by omega, show k ≠ 7 by omega]
  · have : k = 4 ∨ k = 5 ∨ k = 6 ∨ k = 7 := by omega
    rw [e3]
    rcases this with e | e | e | e <;> subst e <;> simp only [upF] <;> exact mat_set_ne (by omega)
  · simp only [upF]; exact mat_set_ne (by omega)
  · rfl
  · refine add_tab (v := v) hr.2.1 h0 h1 tr hl hb (mat (μ.2 8) t) (Or.inl ⟨rfl, by omega⟩) _ (by rfl) (by rfl) (by rfl) (by rfl) (by rfl) (by rfl) _ ?_ ?_ ?_ ?_ a5 ?_
    · simp [upR]
    · simp [upR]
    · simp [upR]
    · show upR _ _ _ _ = _; rw [upR_same, a5] <;> rfl
    · rw [if_neg (by omega)]; exact a6
  · simp [ecode, mfl, upF]
theorem B_slot {σ : cS} {μ : mS} (h : R σ μ) (t v b c : Int) (ht : rg t) (hv : rg v) (hb0 : 0 ≤ b) (hb1 : b ≤ 1) (hc : rg c) : agr IAE ISE (c_slot σ t v b c) (c_mslot μ t v b c) := by
  unfold c_slot c_mslot
  by_cases hT : 0 ≤ t ∧ t < 4
  case neg => rw [if_neg hT, if_neg (misF hT)]; exact agr_a h
  rw [if_pos hT, if_pos (misT hT), isTag_eq (μ := μ) hv]
  by_cases hG : c_misTag μ v = true
  case neg => rw [if_neg hG, if_neg hG]; exact agr_a h
  rw [if_pos hG, if_pos hG, isEnv_eq (μ := μ)]
  by_cases hE : c_misEnvelope μ v = true
  · simp only [if_pos hE, ite_self]; exact agr_a h
  simp only [if_neg hE]
  unfold c_isMost
  by_cases hc1 : c < 1
  · simp only [if_pos hc1, Bool.false_eq_true, if_false]; exact agr_a h
  simp only [if_neg hc1]
  by_cases hc2 : 99 < c
  · simp only [if_pos hc2, Bool.false_eq_true, if_false]; exact agr_a h
  simp only [if_neg hc2, if_true]
  have hr : R σ (mfl μ 0 0) := R_thr h (by omega)
  have tr := h.2.2.2.2.1 t hT.1 (by omega)
  have tr2 := hr.2.2.2.2.1 t hT.1 (by omega)
  have h3 := h.2.1.a3 t
  have vp : 0 < v ∧ v ≤ 16777215 := by
    have q := isTag_pos (σ := σ) (v := v) (by rw [isTag_eq (μ := μ) hv]; exact hG)
    have q2 := misTag_t hG
    omega
  have et : 72 + 11 * t.toNat = tb t := rfl
  rw [et]
  unfold c_tisFull
  have y1 : ((σ.1 (tb t + 1)).length : Int) = mat (μ.2 3) t := tr.1.1
  rw [bare_eq hr.2.1 tr2]
  by_cases hf : mat (μ.2 3) t = 24
  · rw [if_neg (show ¬ (σ.1 (tb t + 1)).length < 24 by omega), if_pos rfl, if_pos hf]; exact agr_s h
  rw [if_pos (show (σ.1 (tb t + 1)).length < 24 by omega), if_neg (show ¬ false = true by decide), if_neg hf]
  by_cases hB : c_misBare (mfl μ 0 0) t = true
  · rw [if_pos hB, if_pos hB]
    by_cases hb : b = 0
    · rw [if_pos hb, if_pos hb]; exact agr_s h
    rw [if_neg hb, if_neg hb]
    by_cases hc3 : c = 1
    · rw [if_pos hc3, if_pos hc3]; exact slot_add h hT.1 (by omega) vp ⟨hb0, hb1⟩ (by omega) (by omega)
    · rw [if_neg hc3, if_neg hc3]; exact agr_s h
  · rw [if_neg hB, if_neg hB]; exact slot_add h hT.1 (by omega) vp ⟨hb0, hb1⟩ (by omega) (by omega)
/-- a group is added -/
theorem open_add {σ : cS} {μ : mS} {t b c : Int} (h : R σ μ) (h0 : 0 ≤ t) (h1 : t ≤ 3) (hb : 0 ≤ b ∧ b ≤ 1) (hc : 1 ≤ c ∧ c ≤ 99) (hl : mat (μ.2 3) t < 24) (hch : ch μ t (mat (μ.2 8) t) ≤ 2) : agr IAE ISE (none, (c_addGroup σ (tb t) b c).1, (c_addGroup σ (tb t) b c).2) ((c_madd (mfl (mfl μ 0 0) 0 0) t 0 b c).1, (mar (c_madd (mfl (mfl μ 0 0) 0 0) t 0 b c).2 8 t ((c_madd (mfl (mfl μ 0 0) 0 0) t 0 b c).1 - 1))) := by
  have hr : R σ (mfl (mfl μ 0 0) 0 0) := R_thr (R_thr h (by omega)) (by omega)
  have tr := hr.2.2.2.2.1 t h0 h1
  have kt := tb_kd h0 h1
  obtain ⟨a1, a2, a3, a4, a5, a6, a7⟩ := id tr
  have e3 : mat ((mfl (mfl μ 0 0) 0 0).2 3) t = mat (μ.2 3) t := rfl
  have hwm := w_madd (b := b) (c := c) (v := 0) hr.2.1 ⟨h0, h1⟩ (by omega) hb (by omega) (show mat ((mfl (mfl μ 0 0) 0 0).2 3) t < 24 from hl)
  have g3 := h.2.1.a3 t
  have hwm2 : wfm (mar (c_madd (mfl (mfl μ 0 0) 0 0) t 0 b c).2 8 t ((c_madd (mfl (mfl μ 0 0) 0 0) t 0 b c).1 - 1)) := wfm_a (k := 8) hwm (by rw [madd_1 hr.2.1 h0 h1, e3]; show (-1 : Int) ≤ _ ∧ _ ≤ 23; omega)
  have a6' : σ.2.1 (tb t) 5 = ch μ t (mat (μ.2 8) t) := a6
  have hwc := w_addGroup (u := b) (m := c) h.1 kt hb (by omega) (by omega)
  rw [madd_2] at hwm2 ⊢
  rw [madd_1 hr.2.1 h0 h1] at hwm2 ⊢
  have y1 : ((σ.1 (tb t + 1)).length : Int) = mat (μ.2 3) t := a1.1
  have y2 : ((σ.1 (tb t + 3)).length : Int) = mat (μ.2 3) t := a2.1
  have y3 : ((σ.1 (tb t + 5)).length : Int) = mat (μ.2 3) t := a3.1
  have y4 : ((σ.1 (tb t + 7)).length : Int) = mat (μ.2 3) t := a4.1
  unfold c_addGroup at hwc ⊢
  rw [tadd_eq kt hb (fun r q => by rcases q with q | q | q | q <;> subst q <;> omega)] at hwc ⊢
  have l8 : (μ.2 8).length = 4 := h.2.1.ln (k := 8) (by decide)
  refine ⟨Or.inl rfl, R_tab hr h0 h1 hwc hwm2 (fun r q => ?_) (fun p k q => ?_) rfl (fun k q => rfl) (fun k q => ?_) (fun k q1 q2 x x1 x2 => ?_) (fun u u0 u1 u2 => ⟨?_, ?_⟩) ?_, ?_, fun _ => ?_⟩
  · simp [cI, upR, show r ≠ tb t + 1 by omega, show r ≠ tb t + 3 by omega, show r ≠ tb t + 5 by omega, show r ≠ tb t + 7 by omega]
  · simp [cI, upI, q]
  · simp [mar, upF, show k ≠ 3 by omega, show k ≠ 4 by omega, show k ≠ 5 by omega, show k ≠ 6 by omega, show k ≠ 7 by omega, show k ≠ 8 by omega]
  · have : k = 4 ∨ k = 5 ∨ k = 6 ∨ k = 7 := by omega
    rw [e3]
    rcases this with e | e | e | e <;> subst e <;> simp only [mar, upF] <;> exact mat_set_ne (by omega)
  · simp only [mar, upF]; exact mat_set_ne (by omega)
  · simp only [mar, upF]; exact mat_set_ne (by omega)
  · refine add_tab hr.2.1 h0 h1 tr hl hb (mat (μ.2 3) t) (Or.inr ⟨rfl, rfl, hch⟩) _ (by rfl) (by rfl) (by rfl) (by rfl) (by rfl) ?_ _ ?_ ?_ ?_ ?_ ?_ ?_
    · show mat ((μ.2 8).set t.toNat (mat (μ.2 3) t + 1 - 1)) t = mat (μ.2 3) t
      rw [mat_set (by omega)]; omega
    · simp [cI, upR]
    · simp [cI, upR]
    · simp [cI, upR]
    · show upR _ _ _ _ = _; rw [upR_same, a5] <;> rfl
    · simp [cI, upI] <;> omega
    · rw [if_pos rfl]; show upI (upI σ.2.1 (tb t) 4 _) (tb t) 5 (σ.2.1 (tb t) 5 + 1) (tb t) 5 = _; rw [upI_same, a6']; rfl
  · simp [ecode, mar, mfl, upF]
  · show (((σ.1 (tb t + 1)).length : Int) + 1) = _; rw [y1]; rfl
theorem B_open {σ : cS} {μ : mS} (h : R σ μ) (t b c : Int) (ht : rg t) (hb0 : 0 ≤ b) (hb1 : b ≤ 1) (hc : rg c) : agr IAE ISE (c_open σ t b c) (c_mopen μ t b c) := by
  unfold c_open c_mopen
  by_cases hT : 0 ≤ t ∧ t < 4
  case neg => rw [if_neg hT, if_neg (misF hT)]; exact agr_a h
  rw [if_pos hT, if_pos (misT hT)]
  unfold c_isMost
  by_cases hc1 : c < 1
  · simp only [if_pos hc1, Bool.false_eq_true, if_false]; exact agr_a h
  simp only [if_neg hc1]
  by_cases hc2 : 99 < c
  · have hc3 : ¬ c ≤ 99 := by omega
    simp only [if_pos hc2, if_neg hc3, Bool.false_eq_true, if_false]; exact agr_a h
  have hc3 : c ≤ 99 := by omega
  simp only [if_neg hc2, if_pos hc3, if_true]
  have hr : R σ (mfl μ 0 0) := R_thr h (by omega)
  have tr := h.2.2.2.2.1 t hT.1 (by omega)
  have tr2 := hr.2.2.2.2.1 t hT.1 (by omega)
  have h3 := h.2.1.a3 t
  have et : 72 + 11 * t.toNat = tb t := rfl
  have c3 : ch μ t (mat (μ.2 8) t) ≤ 3 := ch_3 tr.2.2.2.2.2.2.2.2.2.2 tr.2.2.2.2.2.2.2.1.1 tr.2.2.2.2.2.2.2.1.2
  rw [et]
  unfold c_tisFull c_isDeepest
  have og : c_mopenGroups (mfl μ 0 0) t = ch μ t (mat (μ.2 8) t) := og_eq (μ := mfl μ 0 0) c3
  have y1 : ((σ.1 (tb t + 1)).length : Int) = mat (μ.2 3) t := tr.1.1
  rw [bare_eq hr.2.1 tr2, tr.2.2.2.2.2.1, og]
  by_cases hf : mat (μ.2 3) t = 24
  · rw [if_neg (show ¬ (σ.1 (tb t + 1)).length < 24 by omega), if_pos rfl, if_pos hf]; exact agr_s h
  rw [if_pos (show (σ.1 (tb t + 1)).length < 24 by omega), if_neg (show ¬ false = true by decide), if_neg hf]
  by_cases hd : ch μ t (mat (μ.2 8) t) = 3
  · rw [if_neg (show ¬ ch μ t (mat (μ.2 8) t) < 3 by omega), if_pos rfl, if_pos hd]; exact agr_s h
  rw [if_pos (show ch μ t (mat (μ.2 8) t) < 3 by omega), if_neg (show ¬ false = true by decide), if_neg hd]
  by_cases hB : c_misBare (mfl μ 0 0) t = true
  · rw [if_pos hB, if_pos hB]; exact agr_s h
  · rw [if_neg hB, if_neg hB]; exact open_add h hT.1 (by omega) ⟨hb0, hb1⟩ (by omega) (by omega) (by omega)
theorem B_close {σ : cS} {μ : mS} (h : R σ μ) (t : Int) (ht : rg t) : agrB IAE IAE (c_close σ t) (c_mclose μ t) := by
  have hwc := w_close (t := t) h.1 ht h.hdp
  have hwm := w_mclose (t := t) h.2.1 ht
  unfold c_close at hwc ⊢
  unfold c_mclose at hwm ⊢
  by_cases hT : 0 ≤ t ∧ t < 4
  case neg => rw [if_neg hT, if_neg (misF hT)]; exact agrB_a h
  have hr : R σ (mfl μ 0 0) := R_thr h (by omega)
  have tr := h.2.2.2.2.1 t hT.1 (by omega)
  have tr2 := hr.2.2.2.2.1 t hT.1 (by omega)
  have et : 72 + 11 * t.toNat = tb t := rfl
  have h8 := h.2.1.a8 t
  have no : agrB IAE IAE (none, bz false, σ) (false, mfl μ 0 0) := ⟨Or.inl rfl, hr, by simp [mfl, upF, ecode], fun _ => rfl⟩
  rw [if_pos hT, et] at hwc ⊢
  rw [if_pos (misT hT)] at hwm ⊢
  unfold c_closeList at hwc ⊢
  rw [tr.2.2.2.2.1, bare_eq hr.2.1 tr2] at hwc ⊢
  by_cases c0 : mat (μ.2 8) t = -1
  · rw [if_pos c0, if_neg (show ¬ 0 ≤ mat (μ.2 8) t by omega)]; exact no
  rw [if_neg c0] at hwc ⊢
  rw [if_pos (show 0 ≤ mat (μ.2 8) t by omega)] at hwm ⊢
  by_cases hB : c_misBare (mfl μ 0 0) t = true
  · rw [if_pos hB, if_pos hB]; exact no
  rw [if_neg hB] at hwc hwm ⊢
  rw [if_neg hB]
  have nb : ¬ mat (μ.2 8) t = mat (μ.2 3) t - 1 := fun q => hB (by
    rw [← bare_eq hr.2.1 tr2]; unfold c_wantsTrigger
    rw [tr.2.2.2.2.1, if_neg c0, tr.1.1, if_pos q])
  obtain ⟨a1, a2, a3, a4, a5, a6, b1, b2, b3, b4, b5⟩ := id tr
  have l8 : (μ.2 8).length = 4 := h.2.1.ln (k := 8) (by decide)
  have ro : rat (σ.1 (tb t + 7)) (mat (μ.2 8) t) = mi μ t (mat (μ.2 8) t) := a4.2 _ (by omega) b2.1
  rw [ro] at hwc ⊢
  have bo := b1 (mat (μ.2 8) t) (by omega) b2.1
  have n8 : mat ((mar (mfl μ 0 0) 8 t (mat (μ.2 7) ((24 * t) + (mat (μ.2 8) t)))).2 8) t = mi μ t (mat (μ.2 8) t) := by
    simp only [mar, upF]; exact mat_set (by show t.toNat < (μ.2 8).length; omega)
  refine ⟨Or.inl rfl, R_tab hr hT.1 (by omega) hwc hwm (fun r q => rfl) (fun p k q => ?_) rfl (fun k q => rfl) (fun k q => ?_) (fun k q1 q2 x x1 x2 => ?_) (fun u u0 u1 u2 => ⟨rfl, ?_⟩) ?_, ?_, fun _ => rfl⟩
  · simp [cI, upI, q]
  · simp [mar, mfl, upF, show k ≠ 8 by omega]
  · have : k ≠ 8 := by omega
    simp [mar, mfl, upF, this]
  · simp only [mar, upF]; exact mat_set_ne (by omega)
  · unfold TabR tabOK
    rw [n8]
    refine ⟨a1, a2, a3, a4, ?_, ?_, b1, ⟨by show mi μ t _ < mat (μ.2 3) t; omega, bo.2⟩, b3, fun q1 q2 => absurd (b4 q1 q2) nb, b5⟩
    · simp [cI, upI]
    · show upI (upI σ.2.1 (tb t) 4 _) (tb t) 5 (σ.2.1 (tb t) 5 - 1) (tb t) 5 = ch μ t (mi μ t (mat (μ.2 8) t))
      rw [upI_same, a6]
      have c3 : ch μ t (mat (μ.2 8) t) ≤ 3 := ch_3 b5 b2.1 b2.2
      unfold ch at c3 ⊢
      rw [if_neg (show ¬ mat (μ.2 8) t < 0 by omega)] at c3 ⊢
      by_cases c1 : mi μ t (mat (μ.2 8) t) < 0
      · rw [if_pos c1, if_pos c1]; rfl
      rw [if_neg c1] at c3 ⊢
      rw [if_neg c1]
      by_cases c2 : mi μ t (mi μ t (mat (μ.2 8) t)) < 0
      · rw [if_pos c2, if_pos c2]; rfl
      rw [if_neg c2] at c3 ⊢
      rw [if_neg c2]
      by_cases c4 : mi μ t (mi μ t (mi μ t (mat (μ.2 8) t))) < 0
      · rw [if_pos c4, if_pos c4]; rfl
      · rw [if_neg c4] at c3; omega
  · simp [ecode, mar, mfl, upF]
theorem B_clear {σ : cS} {μ : mS} (h : R σ μ) (t : Int) (ht : rg t) : agrB IAE IAE (c_clear σ t) (c_mclear μ t) := by
  have hwc := w_clear (t := t) h.1 ht
  have hwm := w_mclear (t := t) h.2.1 ht
  unfold c_clear at hwc ⊢
  unfold c_mclear at hwm ⊢
  by_cases hT : 0 ≤ t ∧ t < 4
  case neg => rw [if_neg hT, if_neg (misF hT)]; exact agrB_a h
  have hr : R σ (mfl μ 0 0) := R_thr h (by omega)
  have tr := h.2.2.2.2.1 t hT.1 (by omega)
  have et : 72 + 11 * t.toNat = tb t := rfl
  have h3 := h.2.1.a3 t
  have l8 : (μ.2 8).length = 4 := h.2.1.ln (k := 8) (by decide)
  have l3 : (μ.2 3).length = 4 := h.2.1.ln (k := 3) (by decide)
  have no : agrB IAE IAE (none, 0, σ) (false, mfl μ 0 0) := ⟨Or.inl rfl, hr, by simp [mfl, upF, ecode], fun _ => rfl⟩
  have y1 : ((σ.1 (tb t + 1)).length : Int) = mat (μ.2 3) t := tr.1.1
  rw [if_pos hT, et] at hwc ⊢
  rw [if_pos (misT hT)] at hwm ⊢
  unfold c_isEmpty at hwc ⊢
  by_cases c0 : mat (μ.2 3) t = 0
  · rw [if_pos (show (σ.1 (tb t + 1)).length = 0 by omega), if_pos rfl, if_pos c0]; exact no
  rw [if_neg (show ¬ (σ.1 (tb t + 1)).length = 0 by omega), if_neg (show ¬ false = true by decide)] at hwc ⊢
  rw [if_neg c0] at hwm ⊢
  have n3 : mat ((mar (mar (mfl μ 0 0) 3 t 0) 8 t (-1)).2 3) t = 0 := by
    simp only [mar, upF]; exact mat_set (by show t.toNat < (μ.2 3).length; omega)
  have n8 : mat ((mar (mar (mfl μ 0 0) 3 t 0) 8 t (-1)).2 8) t = -1 := by
    simp only [mar, upF]; exact mat_set (by show t.toNat < (μ.2 8).length; omega)
  refine ⟨Or.inl rfl, R_tab hr hT.1 (by omega) hwc hwm (fun r q => ?_) (fun p k q => ?_) rfl (fun k q => rfl) (fun k q => ?_) (fun k q1 q2 x x1 x2 => ?_) (fun u u0 u1 u2 => ⟨?_, ?_⟩) ?_, ?_, fun _ => rfl⟩
  · simp [c_tempty, cI, cemp, upR, show r ≠ tb t + 1 by omega, show r ≠ tb t + 3 by omega, show r ≠ tb t + 5 by omega, show r ≠ tb t + 7 by omega]
  · simp [c_tempty, cI, cemp, upI, q]
  · simp [mar, mfl, upF, show k ≠ 8 by omega, show k ≠ 3 by omega]
  · simp [mar, mfl, upF, show k ≠ 8 by omega, show k ≠ 3 by omega]
  · simp only [mar, upF]; exact mat_set_ne (by omega)
  · simp only [mar, upF]; exact mat_set_ne (by omega)
  · unfold TabR tabOK mT
    rw [n3, n8]
    refine ⟨?_, ?_, ?_, ?_, ?_, ?_, fun x a b => by omega, ⟨by omega, fun q => by omega⟩, fun g a b => by omega, fun q => by omega, fun a b c => by omega⟩
    · simp [c_tempty, cI, cemp, upR]; exact rowIs_nil
    · simp [c_tempty, cI, cemp, upR]; exact rowIs_nil
    · simp [c_tempty, cI, cemp, upR]; exact rowIs_nil
    · simp [c_tempty, cI, cemp, upR]; exact rowIs_nil
    · simp [c_tempty, cI, cemp, upI]
    · simp [c_tempty, cI, cemp, upI, ch]
  · simp [ecode, mar, mfl, upF]
