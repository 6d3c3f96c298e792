/-! the print leaves the report alone, and the report the print -/
def Q6 (μ ν : mS) : Prop := ν.1 52 = μ.1 52 ∧ (μ.1 52 = 0 → ν.1 50 = μ.1 50 ∧ ν.2 51 = μ.2 51) ∧ (¬ μ.1 52 = 0 → ν.1 48 = μ.1 48 ∧ ν.2 49 = μ.2 49)
theorem Q6.rf (μ : mS) : Q6 μ μ := ⟨rfl, fun _ => ⟨rfl, rfl⟩, fun _ => ⟨rfl, rfl⟩⟩
theorem Q6.tr {μ ν ρ : mS} (h : Q6 μ ν) (k : Q6 ν ρ) : Q6 μ ρ := by
  refine ⟨k.1.trans h.1, fun z => ?_, fun z => ?_⟩
  · have a := h.2.1 z
    have b := k.2.1 (by rw [h.1]; exact z)
    exact ⟨b.1.trans a.1, b.2.trans a.2⟩
  · have a := h.2.2 z
    have b := k.2.2 (by rw [h.1]; exact z)
    exact ⟨b.1.trans a.1, b.2.trans a.2⟩
theorem qx_ite {ρ a b : mS} {c : Prop} [Decidable c] (h1 : Q6 ρ a) (h2 : Q6 ρ b) : Q6 ρ (if c then a else b) := by split <;> assumption
theorem qx_mwrite {ρ τ : mS} {c : Int} (h : Q6 ρ τ) : Q6 ρ (c_mwrite τ c) := by
  refine h.tr ?_
  unfold c_mwrite
  by_cases z : τ.1 52 = 0
  · rw [if_pos z]; exact ⟨rfl, fun _ => ⟨rfl, rfl⟩, fun y => absurd z y⟩
  · rw [if_neg z]; exact ⟨rfl, fun y => absurd y z, fun _ => ⟨rfl, rfl⟩⟩
theorem qx_mwriteTag {ρ τ : mS} {v : Int} (h : Q6 ρ τ) : Q6 ρ (c_mwriteTag τ v) := by
  refine h.tr ?_
  unfold c_mwriteTag
  simp (maxDischargeDepth := 300) only [Q6.rf, ↓qx_ite, ↓qx_mwrite]
theorem qy_mwriteComponentL {c : Int} (fu : Nat) : ∀ (v0 v1 : Int) (τ : mS), Q6 τ (c_mwriteComponentL c fu v0 v1 τ) := by
  induction fu with
  | zero => intro v0 v1 τ; exact Q6.rf _
  | succ fu ih =>
    intro v0 v1 τ
    have ih2 : ∀ (ρ τ : mS) (v0 v1 : Int), Q6 ρ τ → Q6 ρ (c_mwriteComponentL c fu v0 v1 τ) := fun ρ τ _ _ h => h.tr (ih _ _ _)
    unfold c_mwriteComponentL
    simp (maxDischargeDepth := 300) only [Q6.rf, ↓qx_ite, ↓ih2, ↓qx_mwrite, ↓qx_mwriteTag]
theorem qx_mwriteComponentL {c : Int} {fu : Nat} {v0 v1 : Int} {ρ τ : mS} (h : Q6 ρ τ) : Q6 ρ (c_mwriteComponentL c fu v0 v1 τ) := h.tr (qy_mwriteComponentL fu _ _ _)
theorem qx_mwriteComponent {ρ τ : mS} {c : Int} (h : Q6 ρ τ) : Q6 ρ (c_mwriteComponent τ c) := by
  refine h.tr ?_
  unfold c_mwriteComponent
  simp (maxDischargeDepth := 300) only [Q6.rf, ↓qx_ite, ↓qx_mwrite, ↓qx_mwriteTag, ↓qx_mwriteComponentL]
theorem qy_mwriteNumberL {v : Int} (fu : Nat) : ∀ (v0 : Int) (τ : mS), Q6 τ (c_mwriteNumberL v fu v0 τ) := by
  induction fu with
  | zero => intro v0 τ; exact Q6.rf _
  | succ fu ih =>
    intro v0 τ
    have ih2 : ∀ (ρ τ : mS) (v0 : Int), Q6 ρ τ → Q6 ρ (c_mwriteNumberL v fu v0 τ) := fun ρ τ _ h => h.tr (ih _ _)
    unfold c_mwriteNumberL
    simp (maxDischargeDepth := 300) only [Q6.rf, ↓qx_ite, ↓ih2, ↓qx_mwrite, ↓qx_mwriteTag, ↓qx_mwriteComponentL, ↓qx_mwriteComponent]
theorem qx_mwriteNumberL {v : Int} {fu : Nat} {v0 : Int} {ρ τ : mS} (h : Q6 ρ τ) : Q6 ρ (c_mwriteNumberL v fu v0 τ) := h.tr (qy_mwriteNumberL fu _ _)
theorem qx_mwriteNumber {ρ τ : mS} {v : Int} (h : Q6 ρ τ) : Q6 ρ (c_mwriteNumber τ v) := by
  refine h.tr ?_
  unfold c_mwriteNumber
  simp (maxDischargeDepth := 300) only [Q6.rf, ↓qx_ite, ↓qx_mwrite, ↓qx_mwriteTag, ↓qx_mwriteComponentL, ↓qx_mwriteComponent, ↓qx_mwriteNumberL]
theorem qx_mwriteLine {ρ τ : mS} {v : Int} {c : Int} {u : Int} {p : Int} (h : Q6 ρ τ) : Q6 ρ (c_mwriteLine τ v c u p) := by
  refine h.tr ?_
  unfold c_mwriteLine
  simp (maxDischargeDepth := 300) only [Q6.rf, ↓qx_ite, ↓qx_mwrite, ↓qx_mwriteTag, ↓qx_mwriteComponentL, ↓qx_mwriteComponent, ↓qx_mwriteNumberL, ↓qx_mwriteNumber]
theorem qy_mwriteReportL  (fu : Nat) : ∀ (v0 v1 : Int) (τ : mS), Q6 τ (c_mwriteReportL  fu v0 v1 τ) := by
  induction fu with
  | zero => intro v0 v1 τ; exact Q6.rf _
  | succ fu ih =>
    intro v0 v1 τ
    have ih2 : ∀ (ρ τ : mS) (v0 v1 : Int), Q6 ρ τ → Q6 ρ (c_mwriteReportL  fu v0 v1 τ) := fun ρ τ _ _ h => h.tr (ih _ _ _)
    unfold c_mwriteReportL
    simp (maxDischargeDepth := 300) only [Q6.rf, ↓qx_ite, ↓ih2, ↓qx_mwrite, ↓qx_mwriteTag, ↓qx_mwriteComponentL, ↓qx_mwriteComponent, ↓qx_mwriteNumberL, ↓qx_mwriteNumber, ↓qx_mwriteLine]
theorem qx_mwriteReportL  {fu : Nat} {v0 v1 : Int} {ρ τ : mS} (h : Q6 ρ τ) : Q6 ρ (c_mwriteReportL  fu v0 v1 τ) := h.tr (qy_mwriteReportL fu _ _ _)
theorem qy_mwpK {s : Int} {u : Int} {x : Int} {n : Int} (fu : Nat) : ∀ (v0 : Int) (τ : mS), Q6 τ (c_mwpK s u x n fu v0 τ) := by
  induction fu with
  | zero => intro v0 τ; exact Q6.rf _
  | succ fu ih =>
    intro v0 τ
    have ih2 : ∀ (ρ τ : mS) (v0 : Int), Q6 ρ τ → Q6 ρ (c_mwpK s u x n fu v0 τ) := fun ρ τ _ h => h.tr (ih _ _)
    unfold c_mwpK
    simp (maxDischargeDepth := 300) only [Q6.rf, ↓qx_ite, ↓ih2, ↓qx_mwrite, ↓qx_mwriteTag, ↓qx_mwriteComponentL, ↓qx_mwriteComponent, ↓qx_mwriteNumberL, ↓qx_mwriteNumber, ↓qx_mwriteLine, ↓qx_mwriteReportL]
theorem qx_mwpK {s : Int} {u : Int} {x : Int} {n : Int} {fu : Nat} {v0 : Int} {ρ τ : mS} (h : Q6 ρ τ) : Q6 ρ (c_mwpK s u x n fu v0 τ) := h.tr (qy_mwpK fu _ _)
theorem qy_mwpX {s : Int} {u : Int} (fu : Nat) : ∀ (v0 : Int) (τ : mS), Q6 τ (c_mwpX s u fu v0 τ) := by
  induction fu with
  | zero => intro v0 τ; exact Q6.rf _
  | succ fu ih =>
    intro v0 τ
    have ih2 : ∀ (ρ τ : mS) (v0 : Int), Q6 ρ τ → Q6 ρ (c_mwpX s u fu v0 τ) := fun ρ τ _ h => h.tr (ih _ _)
    unfold c_mwpX
    simp (maxDischargeDepth := 300) only [Q6.rf, ↓qx_ite, ↓ih2, ↓qx_mwrite, ↓qx_mwriteTag, ↓qx_mwriteComponentL, ↓qx_mwriteComponent, ↓qx_mwriteNumberL, ↓qx_mwriteNumber, ↓qx_mwriteLine, ↓qx_mwriteReportL, ↓qx_mwpK]
theorem qx_mwpX {s : Int} {u : Int} {fu : Nat} {v0 : Int} {ρ τ : mS} (h : Q6 ρ τ) : Q6 ρ (c_mwpX s u fu v0 τ) := h.tr (qy_mwpX fu _ _)
theorem qy_mwritePrintL  (fu : Nat) : ∀ (v0 : Int) (τ : mS), Q6 τ (c_mwritePrintL  fu v0 τ) := by
  induction fu with
  | zero => intro v0 τ; exact Q6.rf _
  | succ fu ih =>
    intro v0 τ
    have ih2 : ∀ (ρ τ : mS) (v0 : Int), Q6 ρ τ → Q6 ρ (c_mwritePrintL  fu v0 τ) := fun ρ τ _ h => h.tr (ih _ _)
    unfold c_mwritePrintL
    simp (maxDischargeDepth := 300) only [Q6.rf, ↓qx_ite, ↓ih2, ↓qx_mwrite, ↓qx_mwriteTag, ↓qx_mwriteComponentL, ↓qx_mwriteComponent, ↓qx_mwriteNumberL, ↓qx_mwriteNumber, ↓qx_mwriteLine, ↓qx_mwriteReportL, ↓qx_mwpK, ↓qx_mwpX]
theorem qx_mwritePrintL  {fu : Nat} {v0 : Int} {ρ τ : mS} (h : Q6 ρ τ) : Q6 ρ (c_mwritePrintL  fu v0 τ) := h.tr (qy_mwritePrintL fu _ _)
