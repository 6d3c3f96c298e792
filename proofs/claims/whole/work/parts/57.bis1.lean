/-! the simple calls -/
theorem wfm.ln {μ : mS} (hw : wfm μ) {k : Nat} (hk : k < 53) : (μ.2 k).length = (mtab.getD k (0, 0, 0)).1 := (hw k hk).2.1
theorem R_thr {σ : cS} {μ : mS} {v : Int} (h : R σ μ) (hv : 0 ≤ v ∧ v ≤ 2) : R σ (mfl μ 0 v) := ⟨h.1, wfm_f (k := 0) h.2.1 hv, h.2.2⟩
theorem ch_congr {μ μ' : mS} {t g : Int} (h7 : μ'.2 7 = μ.2 7) : ch μ' t g = ch μ t g := by unfold ch mi; rw [h7]
theorem tabOK_congr {μ μ' : mS} {t : Int} (h3 : μ'.2 3 = μ.2 3) (h4 : μ'.2 4 = μ.2 4) (h7 : μ'.2 7 = μ.2 7) (h8 : μ'.2 8 = μ.2 8) (h : tabOK μ t) : tabOK μ' t := by
  unfold tabOK mT mi at h ⊢; rw [h3, h4, h7, h8]; exact h
theorem TabR_congr {σ σ' : cS} {μ μ' : mS} {t : Int} (hr : ∀ r, tb t < r → r < tb t + 9 → σ'.1 r = σ.1 r) (h4 : σ'.2.1 (tb t) 4 = σ.2.1 (tb t) 4) (h5 : σ'.2.1 (tb t) 5 = σ.2.1 (tb t) 5) (hm : ∀ k, 3 ≤ k → k ≤ 8 → μ'.2 k = μ.2 k) (h : TabR σ μ t) : TabR σ' μ' t := by
  obtain ⟨a1, a2, a3, a4, a5, a6, a7⟩ := h
  unfold TabR
  rw [hr _ (by omega) (by omega), hr _ (by omega) (by omega), hr _ (by omega) (by omega), hr _ (by omega) (by omega), h4, h5, hm 3 (by omega) (by omega), hm 4 (by omega) (by omega), hm 5 (by omega) (by omega), hm 6 (by omega) (by omega), hm 7 (by omega) (by omega), hm 8 (by omega) (by omega), ch_congr (hm 7 (by omega) (by omega))]
  exact ⟨a1, a2, a3, a4, a5, a6, tabOK_congr (hm 3 (by omega) (by omega)) (hm 4 (by omega) (by omega)) (hm 7 (by omega) (by omega)) (hm 8 (by omega) (by omega)) a7⟩
theorem LoadR_congr {σ σ' : cS} {μ μ' : mS} (hk : σ'.2.2 = σ.2.2) (hr : ∀ r, r ≠ 3 → r < 72 → σ'.1 r = σ.1 r) (hw : σ.2.2 = 12 ∨ σ.2.2 = 42) (hc : σ'.2.1 σ.2.2 10 = σ.2.1 σ.2.2 10) (h1 : ∀ k, 24 ≤ k → k ≤ 51 → μ'.1 k = μ.1 k) (h2 : ∀ k, 24 ≤ k → k ≤ 51 → μ'.2 k = μ.2 k) (h : LoadR σ μ) : LoadR σ' μ' := by
  obtain ⟨⟨N, p1, p2, p3, p4, p5, p6⟩, a1, a2, a3, a4, a5, a6, a7, a8, a9, a10⟩ := h
  unfold LoadR PartR
  rw [hk, hr _ (by omega) (by omega), hr _ (by omega) (by omega), hr _ (by omega) (by omega), hr _ (by omega) (by omega), hr _ (by omega) (by omega), hr _ (by omega) (by omega), hr _ (by omega) (by omega), hr _ (by omega) (by omega), hr _ (by omega) (by omega), hr _ (by omega) (by omega), hr _ (by omega) (by omega), hr _ (by omega) (by omega), hr 7 (by omega) (by omega), hr 10 (by omega) (by omega), hc,
    h1 24 (by omega) (by omega), h1 27 (by omega) (by omega), h1 29 (by omega) (by omega), h1 33 (by omega) (by omega), h1 39 (by omega) (by omega), h1 32 (by omega) (by omega), h1 48 (by omega) (by omega), h1 50 (by omega) (by omega),
    h2 25 (by omega) (by omega), h2 26 (by omega) (by omega), h2 28 (by omega) (by omega), h2 30 (by omega) (by omega), h2 31 (by omega) (by omega), h2 34 (by omega) (by omega), h2 35 (by omega) (by omega), h2 36 (by omega) (by omega), h2 37 (by omega) (by omega), h2 38 (by omega) (by omega), h2 42 (by omega) (by omega), h2 49 (by omega) (by omega), h2 51 (by omega) (by omega)]
  exact ⟨⟨N, p1, p2, p3, p4, p5, p6⟩, a1, a2, a3, a4, a5, a6, a7, a8, a9, a10⟩
theorem tb_kd {t : Int} (h0 : 0 ≤ t) (h1 : t ≤ 3) : kd (tb t) = 4 := by
  have : t = 0 ∨ t = 1 ∨ t = 2 ∨ t = 3 := by omega
  rcases this with e | e | e | e <;> subst e <;> decide
/-- a change of the text alone -/
theorem R_text {σ : cS} {μ : mS} {row : List Int} {μ' : mS} (h : R σ μ) (hw : wf (upR σ.1 3 row, σ.2)) (hm : wfm μ') (hrow : rowIs row (μ'.2 2) 0 (μ'.1 1)) (htx : ∀ i, 0 ≤ i → i < μ'.1 1 → 32 ≤ mat (μ'.2 2) i) (h1 : ∀ k, 13 ≤ k → k ≤ 51 → μ'.1 k = μ.1 k) (h2 : ∀ k, 3 ≤ k → k ≤ 51 → μ'.2 k = μ.2 k) : R (upR σ.1 3 row, σ.2) μ' := by
  obtain ⟨w1, w2, a1, a2, a3, a4, a5, a6⟩ := h
  refine ⟨hw, hm, by show rowIs (upR σ.1 3 row 3) _ _ _; rw [upR_same]; exact hrow, htx, fun t g0 g1 => TabR_congr (fun r b1 b2 => upR_ne (by unfold tb at b1; omega)) rfl rfl (fun k b1 b2 => h2 k b1 (by omega)) (a3 t g0 g1), ?_, ?_, ?_⟩
  · rw [h1 23 (by omega) (by omega)]; exact a4
  · rw [h1 13 (by omega) (by omega)]; exact a5
  · rw [h1 23 (by omega) (by omega)]
    rcases a6 with q | q
    · exact Or.inl q
    · exact Or.inr (LoadR_congr (σ := σ) rfl (fun r b1 b2 => upR_ne b1) w1.2.2.2 rfl (fun k b1 b2 => h1 k (by omega) b2) (fun k b1 b2 => h2 k (by omega) b2) q)
theorem B_wipe {σ : cS} {μ : mS} (h : R σ μ) : R (c_wipe σ) (c_mwipe μ) := by
  have hm : wfm (c_mwipe μ) := w_mwipe h.2.1
  exact R_text (row := []) h (wf_emp h.1) hm rowIs_nil (fun i g0 g1 => absurd (show i < 0 from g1) (by omega)) (fun k b1 b2 => by simp [c_mwipe, mfl, upF, show k ≠ 1 by omega, show k ≠ 0 by omega]) (fun k b1 b2 => rfl)
theorem B_length {σ : cS} {μ : mS} (h : R σ μ) : c_length σ = (c_mlength μ).1 ∧ R σ (c_mlength μ).2 := ⟨h.2.2.1.1, R_thr h (by omega)⟩
theorem B_fault {σ : cS} {μ : mS} (h : R σ μ) : c_fault σ = (c_mfault μ).1 ∧ R σ (c_mfault μ).2 := ⟨h.2.2.2.2.2.2.1, R_thr h (by omega)⟩
/-- the two ends of a call that looks -/
theorem agr_no {σ : cS} {μ : mS} (h : R σ μ) : agr ISE ISE (some ISE, 0, σ) (0, mfl μ 0 1) := ⟨Or.inr (Or.inl rfl), R_thr h (by omega), by simp [mfl, upF, ecode], fun q => by cases q⟩
theorem agr_is {σ : cS} {μ : mS} {a b : String} {v w : Int} (h : R σ μ) (e : v = w) : agr a b (none, v, σ) (w, mfl μ 0 0) := ⟨Or.inl rfl, R_thr h (by omega), by simp [mfl, upF, ecode], fun _ => e⟩
theorem rat_get {row arr : List Int} {n i : Int} (h : rowIs row arr 0 n) : rat row i = if 0 ≤ i ∧ i < n then mat arr i else -1 := by
  split
  · rename_i c; exact h.in c.1 c.2
  · exact rat_out (by have := h.1; omega)
theorem R.load {σ : cS} {μ : mS} (h : R σ μ) (h0 : ¬ μ.1 23 = 0) : LoadR σ μ := by
  rcases h.2.2.2.2.2.2.2 with q | q
  · exact absurd q h0
  · exact q
theorem B_interchange {σ : cS} {μ : mS} (h : R σ μ) (a : Int) : agr ISE ISE (c_interchange σ a) (c_minterchange μ a) := by
  have e6 := h.2.2.2.2.2.1
  unfold c_interchange c_minterchange
  rw [e6]
  split
  · exact agr_no h
  · rename_i h0
    obtain ⟨⟨N, p1, p2, p3, p4, p5, p6⟩, a1, a2, a3, a4, a5, a6, a7, a8, a9, a10⟩ := h.load h0
    split
    · exact agr_is h (show ((σ.1 (σ.2.2 + 1 + 1)).length : Int) = μ.1 24 from p1.1)
    · split
      · exact agr_is h (show ((σ.1 (σ.2.2 + 12)).length : Int) = μ.1 33 from a1.1)
      · split
        · exact agr_is h (show ((σ.1 (σ.2.2 + 22)).length : Int) = μ.1 39 from a6)
        · split
          · exact agr_is h a8
          · exact agr_is h rfl
theorem B_group {σ : cS} {μ : mS} (h : R σ μ) (a : Int) : agr ISE ISE (c_group σ a) (c_mgroup μ a) := by
  have e6 := h.2.2.2.2.2.1
  unfold c_group c_mgroup
  rw [e6]
  split
  · exact agr_no h
  · rename_i h0
    obtain ⟨-, a1, a2, a3, a4, a5, a6, a7, a8, a9, a10⟩ := h.load h0
    unfold c_codeOfGroup
    rw [rat_get a7]
    (repeat' split) <;> first | exact agr_is h rfl | (exfalso; omega)
theorem B_print {σ : cS} {μ : mS} (h : R σ μ) (a : Int) : agr ISE ISE (c_print σ a) (c_mprint μ a) := by
  have e6 := h.2.2.2.2.2.1
  unfold c_print c_mprint
  rw [e6]
  split
  · exact agr_no h
  · rename_i h0
    obtain ⟨-, a1, a2, a3, a4, a5, a6, a7, a8, a9, a10⟩ := h.load h0
    have a9' : rowIs (σ.1 (6 + 1)) (μ.2 49) 0 (μ.1 48) := a9
    unfold c_qlook
    rw [rat_get a9', a9'.1]
    (repeat' split) <;> first | exact agr_is h rfl | (exfalso; omega)
theorem B_report {σ : cS} {μ : mS} (h : R σ μ) (a : Int) : agr ISE ISE (c_report σ a) (c_mreport μ a) := by
  have e6 := h.2.2.2.2.2.1
  unfold c_report c_mreport
  rw [e6]
  split
  · exact agr_no h
  · rename_i h0
    obtain ⟨-, a1, a2, a3, a4, a5, a6, a7, a8, a9, a10⟩ := h.load h0
    have a9' : rowIs (σ.1 (9 + 1)) (μ.2 51) 0 (μ.1 50) := a10
    unfold c_qlook
    rw [rat_get a9', a9'.1]
    (repeat' split) <;> first | exact agr_is h rfl | (exfalso; omega)
theorem B_message {σ : cS} {μ : mS} (h : R σ μ) (a b : Int) : agr ISE ISE (c_message σ a b) (c_mmessage μ a b) := by
  have e6 := h.2.2.2.2.2.1
  unfold c_message c_mmessage
  rw [e6]
  split
  · exact agr_no h
  · rename_i h0
    obtain ⟨-, a1, a2, a3, a4, a5, a6, a7, a8, a9, a10⟩ := h.load h0
    unfold c_ofMessage
    rw [a1.1]
    by_cases c0 : a < 0
    · simp only [if_pos c0]; exact agr_is h rfl
    · by_cases c1 : a < μ.1 33
      · have c2 : ¬ μ.1 33 ≤ a := by omega
        simp only [if_neg c0, if_pos c1, if_neg c2, a1.in (by omega) c1, a2.in (by omega) c1, a3.in (by omega) c1, a4.in (by omega) c1, a5.in (by omega) c1]
        (repeat' split) <;> first | exact agr_is h rfl | (exfalso; omega)
      · have c2 : μ.1 33 ≤ a := by omega
        simp only [if_neg c0, if_neg c1, if_pos c2]; exact agr_is h rfl
/-- what partsOK says of single numbers -/
theorem mono_le {f : Int → Int} {n : Int} (h : ∀ s, 0 ≤ s → s < n → f s ≤ f (s + 1)) : ∀ (k : Nat) (s : Int), 0 ≤ s → s + k ≤ n → f s ≤ f (s + k)
  | 0, s, _, _ => by simp
  | k + 1, s, h0, h1 => by
    have a := mono_le h k s h0 (by omega)
    have b := h (s + k) (by omega) (by omega)
    have e : s + (k : Int) + 1 = s + ((k + 1 : Nat) : Int) := by omega
    rw [e] at b; omega
theorem mono_le2 {f : Int → Int} {n s t : Int} (h : ∀ s, 0 ≤ s → s < n → f s ≤ f (s + 1)) (h0 : 0 ≤ s) (h1 : s ≤ t) (h2 : t ≤ n) : f s ≤ f t := by
  have := mono_le h (t - s).toNat s h0 (by omega)
  have e : s + ((t - s).toNat : Int) = t := by omega
  rw [e] at this; exact this
theorem partsOK.e {a25 a26 a28 a30 : List Int} {S E C N s : Int} (h : partsOK a25 a26 a28 a30 S E C N) (h0 : 0 ≤ s) (h1 : s ≤ S) : 0 ≤ mat a26 s ∧ mat a26 s ≤ E := by
  obtain ⟨-, -, -, ⟨b1, b2, b3⟩, -, -⟩ := h
  have x := mono_le2 (f := mat a26) b3 (Int.le_refl 0) h0 h1
  have y := mono_le2 (f := mat a26) b3 h0 h1 (Int.le_refl S)
  omega
theorem partsOK.c {a25 a26 a28 a30 : List Int} {S E C N s : Int} (h : partsOK a25 a26 a28 a30 S E C N) (h0 : 0 ≤ s) (h1 : s ≤ E) : 0 ≤ mat a28 s ∧ mat a28 s ≤ C := by
  obtain ⟨-, -, -, -, ⟨b1, b2, b3⟩, -⟩ := h
  have b4 : ∀ s, 0 ≤ s → s < E → mat a28 s ≤ mat a28 (s + 1) := fun s u v => Int.le_of_lt (b3 s u v)
  have x := mono_le2 (f := mat a28) b4 (Int.le_refl 0) h0 h1
  have y := mono_le2 (f := mat a28) b4 h0 h1 (Int.le_refl E)
  omega
theorem partsOK.h {a25 a26 a28 a30 : List Int} {S E C N s : Int} (h : partsOK a25 a26 a28 a30 S E C N) (h0 : 0 ≤ s) (h1 : s ≤ C) : 0 ≤ mat a30 s ∧ mat a30 s ≤ N := by
  obtain ⟨-, -, -, -, -, ⟨b1, b2, b3⟩⟩ := h
  have x := mono_le2 (f := mat a30) b3 (Int.le_refl 0) h0 h1
  have y := mono_le2 (f := mat a30) b3 h0 h1 (Int.le_refl C)
  omega
section PR
variable {σ : cS} {μ : mS} {e : Nat} {N : Int}
theorem PartR.el (h : PartR σ μ e N) {s u : Int} (hs : 0 ≤ s) (hs2 : s < μ.1 24) (hu : 0 ≤ u) : c_elementAt σ (e + 1) s u = if u < mat (μ.2 26) (s + 1) - mat (μ.2 26) s then mat (μ.2 26) s + u else -1 := by
  obtain ⟨p1, p2, p3, p4, p5, p6⟩ := h
  unfold c_elementAt
  have q1 : ((σ.1 (e + 1 + 1)).length : Int) = μ.1 24 := p1.1
  have q2 : rat (σ.1 (e + 1 + 3)) s = mat (μ.2 26) s := p2.in hs (by omega)
  have q3 : rat (σ.1 (e + 1 + 3)) (s + 1) = mat (μ.2 26) (s + 1) := p2.in (by omega) (by omega)
  rw [if_neg (by omega), if_neg (by omega), if_pos hu, q2, q3]
  (repeat' split) <;> first | rfl | (exfalso; omega)
/-- a component of an element that is there -/
theorem PartR.co (h : PartR σ μ e N) {s u c : Int} (hs : 0 ≤ s) (hs2 : s < μ.1 24) (hu : 0 ≤ u) (hu2 : u < mat (μ.2 26) (s + 1) - mat (μ.2 26) s) (hc : 0 ≤ c) : c_componentAt σ (e + 1) s u c = if c < mat (μ.2 28) (mat (μ.2 26) s + u + 1) - mat (μ.2 28) (mat (μ.2 26) s + u) then mat (μ.2 28) (mat (μ.2 26) s + u) + c else -1 := by
  have k1 := h.2.2.2.2.2.e hs (by omega)
  have k2 := h.2.2.2.2.2.e (s := s + 1) (by omega) (by omega)
  have el := h.el hs hs2 hu
  rw [if_pos hu2] at el
  obtain ⟨p1, p2, p3, p4, p5, p6⟩ := h
  unfold c_componentAt
  rw [el]
  have q2 : rat (σ.1 (e + 1 + 5)) (mat (μ.2 26) s + u) = mat (μ.2 28) (mat (μ.2 26) s + u) := p3.in (by omega) (by omega)
  have q3 : rat (σ.1 (e + 1 + 5)) (mat (μ.2 26) s + u + 1) = mat (μ.2 28) (mat (μ.2 26) s + u + 1) := p3.in (by omega) (by omega)
  rw [if_neg (by omega), if_pos hc, q2, q3]
  (repeat' split) <;> first | rfl | (exfalso; omega)
theorem PartR.wd (h : PartR σ μ e N) {c : Int} (hc : 0 ≤ c) (hc2 : c < μ.1 29) : c_widthOf σ (e + 1) c = mat (μ.2 30) (c + 1) - mat (μ.2 30) c := by
  obtain ⟨p1, p2, p3, p4, p5, p6⟩ := h
  unfold c_widthOf
  have q2 : rat (σ.1 (e + 1 + 7)) c = mat (μ.2 30) c := p4.in (by omega) (by omega)
  have q3 : rat (σ.1 (e + 1 + 7)) (c + 1) = mat (μ.2 30) (c + 1) := p4.in (by omega) (by omega)
  rw [if_neg (by omega), q2, q3]
theorem PartR.cr (h : PartR σ μ e N) {c i : Int} (hc : 0 ≤ c) (hc2 : c < μ.1 29) : c_characterOf σ (e + 1) c i = if 0 ≤ i ∧ i < mat (μ.2 30) (c + 1) - mat (μ.2 30) c then mat (μ.2 31) (mat (μ.2 30) c + i) else -1 := by
  have k1 := h.2.2.2.2.2.h hc (by omega)
  have k2 := h.2.2.2.2.2.h (s := c + 1) (by omega) (by omega)
  have wd := h.wd hc hc2
  obtain ⟨p1, p2, p3, p4, p5, p6⟩ := h
  unfold c_characterOf
  have q2 : rat (σ.1 (e + 1 + 7)) c = mat (μ.2 30) c := p4.in (by omega) (by omega)
  rw [wd, q2]
  split
  · rw [if_neg (by omega)]
  · split
    · rw [if_neg (by omega)]
    · rw [if_pos (by omega)]
      exact p5.in (by omega) (by omega)
end PR
theorem B_segment {σ : cS} {μ : mS} (h : R σ μ) (s u c i : Int) : agr ISE ISE (c_segment σ s u c i) (c_msegment μ s u c i) := by
  have e6 := h.2.2.2.2.2.1
  unfold c_segment c_msegment
  rw [e6]
  by_cases h0 : μ.1 23 = 0
  · rw [if_pos h0, if_pos h0]; exact agr_no h
  · rw [if_neg h0, if_neg h0]
    obtain ⟨⟨N, hp⟩, -⟩ := h.load h0
    have q1 : ((σ.1 (σ.2.2 + 1 + 1)).length : Int) = μ.1 24 := hp.1.1
    unfold c_look
    by_cases c0 : s < 0
    · simp only [if_pos c0]; exact agr_is h rfl
    by_cases c1 : s < μ.1 24
    · have c2 : ¬ μ.1 24 ≤ s := by omega
      simp only [if_neg c0, q1, if_pos c1, if_neg c2]
      have t1 : rat (σ.1 (σ.2.2 + 1 + 1)) s = mat (μ.2 25) s := hp.1.in (by omega) c1
      have t2 : rat (σ.1 (σ.2.2 + 1 + 3)) s = mat (μ.2 26) s := hp.2.1.in (by omega) (by omega)
      have t3 : rat (σ.1 (σ.2.2 + 1 + 3)) (s + 1) = mat (μ.2 26) (s + 1) := hp.2.1.in (by omega) (by omega)
      rw [t1, t2, t3]
      have k1 := hp.2.2.2.2.2.e (s := s) (by omega) (by omega)
      have k2 := hp.2.2.2.2.2.e (s := s + 1) (by omega) (by omega)
      by_cases d0 : u < 0
      · have el : c_elementAt σ (σ.2.2 + 1) s u = -1 := by
          unfold c_elementAt
          rw [if_neg c0, if_neg (by omega), if_neg (by omega)]
        have n0 : ¬ 0 ≤ u := by omega
        by_cases d2 : u = -2
        · have n1 : (-2 : Int) ≤ u := by omega
          simp only [n0, n1, if_pos d2, if_true, if_false, eq_self, ↓reduceIte]; exact agr_is h rfl
        · by_cases d3 : u = -1
          · have n1 : (-2 : Int) ≤ u := by omega
            simp only [n0, n1, d2, if_pos d3, if_true, if_false, eq_self, ↓reduceIte]; exact agr_is h rfl
          · have n1 : ¬ (-2 : Int) ≤ u := by omega
            simp only [n0, n1, d2, d3, el, if_true, if_false, eq_self, ↓reduceIte]; exact agr_is h rfl
      · have el := hp.el (s := s) (u := u) (by omega) c1 (by omega)
        have n0 : 0 ≤ u := by omega
        have n1 : (-2 : Int) ≤ u := by omega
        have n2 : ¬ u = -2 := by omega
        have n3 : ¬ u = -1 := by omega
        by_cases d1 : u < mat (μ.2 26) (s + 1) - mat (μ.2 26) s
        · rw [if_pos d1] at el
          have m2 : rat (σ.1 (σ.2.2 + 1 + 5)) (mat (μ.2 26) s + u) = mat (μ.2 28) (mat (μ.2 26) s + u) := hp.2.2.1.in (by omega) (by omega)
          have m3 : rat (σ.1 (σ.2.2 + 1 + 5)) (mat (μ.2 26) s + u + 1) = mat (μ.2 28) (mat (μ.2 26) s + u + 1) := hp.2.2.1.in (by omega) (by omega)
          have n4 : ¬ mat (μ.2 26) s + u = -1 := by omega
          have n5 : ¬ mat (μ.2 26) (s + 1) - mat (μ.2 26) s ≤ u := by omega
          have k3 := hp.2.2.2.2.2.c (s := mat (μ.2 26) s + u) (by omega) (by omega)
          have k4 := hp.2.2.2.2.2.c (s := mat (μ.2 26) s + u + 1) (by omega) (by omega)
          simp only [el, m2, m3, n0, n1, n2, n3, n4, n5, if_true, if_false, eq_self, ↓reduceIte]
          by_cases f0 : c < 0
          · have f4 : ¬ 0 ≤ c := by omega
            have co : c_componentAt σ (σ.2.2 + 1) s u c = -1 := by
              unfold c_componentAt; rw [el, if_neg n4, if_neg (by omega)]
            by_cases f2 : c = -1
            · have f3 : (-1 : Int) ≤ c := by omega
              simp only [if_pos f2, f0, f3, f4, if_true, if_false, eq_self, ↓reduceIte]; exact agr_is h rfl
            · have f3 : ¬ (-1 : Int) ≤ c := by omega
              simp only [if_neg f2, co, f3, if_true, if_false, eq_self, ↓reduceIte]; exact agr_is h rfl
          · have f2 : ¬ c = -1 := by omega
            have f3 : (-1 : Int) ≤ c := by omega
            have f4 : 0 ≤ c := by omega
            have co := hp.co (s := s) (u := u) (c := c) (by omega) c1 (by omega) d1 (by omega)
            by_cases f1 : c < mat (μ.2 28) (mat (μ.2 26) s + u + 1) - mat (μ.2 28) (mat (μ.2 26) s + u)
            · rw [if_pos f1] at co
              have w1 := hp.wd (c := mat (μ.2 28) (mat (μ.2 26) s + u) + c) (by omega) (by omega)
              have w2 := hp.cr (c := mat (μ.2 28) (mat (μ.2 26) s + u) + c) (i := i) (by omega) (by omega)
              have w3 : c_msizeOf (mfl μ 0 0) (mat (μ.2 28) (mat (μ.2 26) s + u) + c) = mat (μ.2 30) (mat (μ.2 28) (mat (μ.2 26) s + u) + c + 1) - mat (μ.2 30) (mat (μ.2 28) (mat (μ.2 26) s + u) + c) := by
                unfold c_msizeOf; rw [if_pos (by omega)]; rfl
              have f5 : ¬ mat (μ.2 28) (mat (μ.2 26) s + u + 1) - mat (μ.2 28) (mat (μ.2 26) s + u) ≤ c := by omega
              have f6 : ¬ mat (μ.2 28) (mat (μ.2 26) s + u) + c = -1 := by omega
              simp only [co, f0, f2, f3, f4, f5, f6, w1, w2, w3, if_true, if_false, eq_self, ↓reduceIte]
              by_cases z0 : i < 0
              · have z4 : ¬ 0 ≤ i := by omega
                by_cases z1 : i = -1
                · have z2 : (-1 : Int) ≤ i := by omega
                  simp only [if_pos z1, z0, z2, z4, if_true, if_false, eq_self, ↓reduceIte]; exact agr_is h rfl
                · have z2 : ¬ (-1 : Int) ≤ i := by omega
                  simp only [if_neg z1, z0, z2, z4, false_and, if_true, if_false, eq_self, ↓reduceIte]; exact agr_is h rfl
              · have z1 : ¬ i = -1 := by omega
                have z2 : (-1 : Int) ≤ i := by omega
                have z4 : 0 ≤ i := by omega
                by_cases z3 : i < mat (μ.2 30) (mat (μ.2 28) (mat (μ.2 26) s + u) + c + 1) - mat (μ.2 30) (mat (μ.2 28) (mat (μ.2 26) s + u) + c)
                · have z5 : ¬ mat (μ.2 30) (mat (μ.2 28) (mat (μ.2 26) s + u) + c + 1) - mat (μ.2 30) (mat (μ.2 28) (mat (μ.2 26) s + u) + c) ≤ i := by omega
                  simp only [z0, z1, z2, z3, z4, z5, and_self, if_true, if_false, eq_self, ↓reduceIte]; exact agr_is h rfl
                · have z5 : mat (μ.2 30) (mat (μ.2 28) (mat (μ.2 26) s + u) + c + 1) - mat (μ.2 30) (mat (μ.2 28) (mat (μ.2 26) s + u) + c) ≤ i := by omega
                  simp only [z0, z1, z2, z3, z4, z5, and_false, if_true, if_false, eq_self, ↓reduceIte]; exact agr_is h rfl
            · rw [if_neg f1] at co
              have f5 : mat (μ.2 28) (mat (μ.2 26) s + u + 1) - mat (μ.2 28) (mat (μ.2 26) s + u) ≤ c := by omega
              simp only [co, f0, f2, f3, f4, f5, if_true, if_false, eq_self, ↓reduceIte]; exact agr_is h rfl
        · rw [if_neg d1] at el
          have n5 : mat (μ.2 26) (s + 1) - mat (μ.2 26) s ≤ u := by omega
          simp only [el, n0, n1, n2, n3, n5, if_true, if_false, eq_self, ↓reduceIte]; exact agr_is h rfl
    · have c2 : μ.1 24 ≤ s := by omega
      simp only [if_neg c0, q1, if_neg c1, if_pos c2]; exact agr_is h rfl
