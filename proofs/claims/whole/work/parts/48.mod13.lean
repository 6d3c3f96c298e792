/-- what take needs of the tags, at any fuel -/
def TK (tags : List Int) (n k g m : Int) : Prop := ∀ f, tOK tags f n k g m
theorem TK_end {tags : List Int} {n k g m : Int} (h : n - 1 ≤ k) : TK tags n k g m := fun f => by
  cases f with
  | zero => trivial
  | succ f => intro hl; omega
theorem TK_ung {tags : List Int} {n k g m : Int} (hc : mat tags k = 5590599) (hg : k < n - 1 → g < 20) (h : TK tags n (k + 1) (g + 1) m) : TK tags n k g m := fun f => by
  cases f with
  | zero => trivial
  | succ f => intro hl; rw [if_pos hc]; exact ⟨hg hl, h f⟩
theorem TK_une {tags : List Int} {n k g m : Int} (hc : mat tags k = 5590597) (hg : 1 ≤ g) (h : TK tags n (k + 1) g m) : TK tags n k g m := fun f => by
  cases f with
  | zero => trivial
  | succ f => intro hl; rw [if_neg (by omega), if_pos hc]; exact ⟨hg, h f⟩
theorem TK_unh {tags : List Int} {n k g m : Int} (hc : mat tags k = 5590600) (hg : k < n - 1 → m < 20) (h : TK tags n (k + 1) g (m + 1)) : TK tags n k g m := fun f => by
  cases f with
  | zero => trivial
  | succ f => intro hl; rw [if_neg (by omega), if_neg (by omega), if_pos hc]; exact ⟨hg hl, h f⟩
theorem TK_unt {tags : List Int} {n k g m : Int} (hc : mat tags k = 5590612) (hg : 1 ≤ m) (h : TK tags n (k + 1) g m) : TK tags n k g m := fun f => by
  cases f with
  | zero => trivial
  | succ f => intro hl; rw [if_neg (by omega), if_neg (by omega), if_neg (by omega), if_pos hc]; exact ⟨hg, h f⟩
theorem TK_no {tags : List Int} {n k g m : Int} (h1 : ¬ mat tags k = 5590599) (h2 : ¬ mat tags k = 5590597) (h3 : ¬ mat tags k = 5590600) (h4 : ¬ mat tags k = 5590612) (h : TK tags n (k + 1) g m) : TK tags n k g m := fun f => by
  cases f with
  | zero => trivial
  | succ f => intro hl; rw [if_neg h1, if_neg h2, if_neg h3, if_neg h4]; exact h f
theorem TK_A {σ : mS} {n gp q g m : Int} (fu : Nat) {k : Int} (h : TK (σ.2 15) n (c_mwrapsA n gp q fu k σ) g m) : TK (σ.2 15) n k g m := by
  induction fu generalizing k with
  | zero => exact h
  | succ fu ih =>
    unfold c_mwrapsA at h
    split at h
    · exact h
    · split at h
      · exact h
      · rename_i h1 h2
        unfold c_misEnvelope at h2
        (repeat' split at h2) <;> first | exact absurd rfl h2 | exact TK_no (by assumption) (by assumption) (by assumption) (by assumption) (ih h)
theorem TK_B {σ : mS} (hw : wfm σ) {n gp g : Int} (hn : 4 ≤ n ∧ n ≤ 40) (hgp : 0 ≤ gp ∧ gp ≤ 1) (fu : Nat) {k q m : Int} (hk : 1 ≤ k ∧ k ≤ n) (hq : 0 ≤ q ∧ q ≤ k - 1) (hm : 0 ≤ m ∧ 2 * m ≤ k - 1) (h0 : (c_mwrapsB n gp fu k q σ).1 ≠ 1)
    (h : 2 * (m + ((c_mwrapsB n gp fu k q σ).2.2 - q)) ≤ (c_mwrapsB n gp fu k q σ).2.1 - 1 → TK (σ.2 15) n (c_mwrapsB n gp fu k q σ).2.1 g (m + ((c_mwrapsB n gp fu k q σ).2.2 - q))) : TK (σ.2 15) n k g m := by
  induction fu generalizing k q m with
  | zero =>
    have e : m + (q - q) = m := by omega
    have h2 := h (by show 2 * (m + (q - q)) ≤ k - 1; omega)
    change TK (σ.2 15) n k g (m + (q - q)) at h2
    rw [e] at h2; exact h2
  | succ fu ih =>
    unfold c_mwrapsB at h h0
    split at h
    · rename_i c; rw [if_pos c] at h0
      have e : m + (q - q) = m := by omega
      have h2 := h (by show 2 * (m + (q - q)) ≤ k - 1; omega)
      change TK (σ.2 15) n k g (m + (q - q)) at h2
      rw [e] at h2; exact h2
    · rename_i c; rw [if_neg c] at h0
      split at h
      · rename_i c2; rw [if_pos c2] at h0
        split at h
        · rename_i c3; rw [if_pos c3] at h0
          have ra := r_mwrapsA (σ := σ) (n := n) (g := gp) (q := q) (k := k + 1) hw hn hgp (by omega) 40 (by omega)
          refine TK_unh c2 (by omega) (TK_A (gp := gp) (q := q) 40 ?_)
          refine TK_unt c3 (by omega) ?_
          refine ih (q := q + 1) (by omega) (by omega) (by omega) h0 (fun h9 => ?_)
          have e : m + 1 + ((c_mwrapsB n gp fu (c_mwrapsA n gp q 40 (k + 1) σ + 1) (q + 1) σ).2.2 - (q + 1)) = m + ((c_mwrapsB n gp fu (c_mwrapsA n gp q 40 (k + 1) σ + 1) (q + 1) σ).2.2 - q) := by omega
          rw [e] at h9 ⊢; exact h h9
        · rename_i c3; rw [if_neg c3] at h0
          exact absurd rfl h0
      · rename_i c2; rw [if_neg c2] at h0
        have e : m + (q - q) = m := by omega
        have h2 := h (by show 2 * (m + (q - q)) ≤ k - 1; omega)
        change TK (σ.2 15) n k g (m + (q - q)) at h2
        rw [e] at h2; exact h2
theorem TK_L {σ : mS} (hw : wfm σ) {n gp : Int} (hn : 4 ≤ n ∧ n ≤ 40) (hgp : 0 ≤ gp ∧ gp ≤ 1) (fu : Nat) {k g m : Int} (hk : 1 ≤ k ∧ k ≤ n + 1) (hg : 0 ≤ g ∧ 2 * g ≤ k - 1) (hm : 0 ≤ m ∧ 2 * m ≤ k - 1) (h : c_mwrapsL fu n gp k σ = true) : TK (σ.2 15) n k g m := by
  induction fu generalizing k g m with
  | zero => exact absurd h (by unfold c_mwrapsL; decide)
  | succ fu ih =>
    unfold c_mwrapsL at h
    split at h
    · exact TK_end (by omega)
    · split at h
      · split at h
        · cases h
        · rename_i c3
          split at h
          · cases h
          · split at h
            · refine TK_B hw hn hgp 41 (q := 0) (by omega) (by omega) (by omega) c3 (fun _ => TK_end (by omega))
            · cases h
      · split at h
        · rename_i c2
          split at h
          · cases h
          · rename_i c3
            split at h
            · cases h
            · split at h
              · rename_i c4 c5
                have rb := r_mwrapsB (σ := σ) (n := n) (g := gp) (k := k + 1) (q := 0) hw hn hgp 41 (by omega) (by omega)
                refine TK_ung c2 (by omega) ?_
                refine TK_B hw hn hgp 41 (q := 0) (by omega) (by omega) (by omega) c3 (fun h9 => ?_)
                exact TK_une c5 (by omega) (ih (by omega) (by omega) (by omega) h)
              · cases h
        · cases h
theorem wraps_n {σ : mS} (h : c_mwraps σ = true) : 4 ≤ σ.1 14 := by
  unfold c_mwraps at h
  split at h
  · cases h
  · omega
theorem wraps_t {σ : mS} (hw : wfm σ) (h : c_mwraps σ = true) : tOK (σ.2 15) 41 (σ.1 14) 1 0 0 := by
  have h4 := wraps_n h
  have h14 := hw.f14
  unfold c_mwraps at h
  split at h
  · cases h
  · split at h
    · split at h
      · split at h
        · exact TK_L hw (by omega) (by omega) 42 (by omega) (by omega) (by omega) h 41
        · exact TK_L hw (by omega) (by omega) 42 (by omega) (by omega) (by omega) h 41
      · cases h
    · cases h
theorem g1_mtakeL5  {fu : Nat} {v0 : Int} {σ : mS} {k : Nat} (h : k ∉ ([33, 39] : List Nat)) : (c_mtakeL5  fu v0 σ).1 k = σ.1 k := by
  simp only [List.mem_cons, List.not_mem_nil, or_false, not_or] at h
  induction fu generalizing σ v0 with
  | zero => rfl
  | succ fu ih =>
    unfold c_mtakeL5
    (repeat' split) <;> simp [mfl, mar, upF, h, ih]
theorem g1_mtakeL4  {fu : Nat} {v0 : Int} {σ : mS} {k : Nat} (h : k ∉ ([33, 39] : List Nat)) : (c_mtakeL4  fu v0 σ).1 k = σ.1 k := by
  simp only [List.mem_cons, List.not_mem_nil, or_false, not_or] at h
  induction fu generalizing σ v0 with
  | zero => rfl
  | succ fu ih =>
    unfold c_mtakeL4
    (repeat' split) <;> simp [mfl, mar, upF, h, ih, g1_mtakeL5]
theorem g1_mtakeL3  {fu : Nat} {v0 : Int} {σ : mS} {k : Nat} (h : k ∉ ([33, 39] : List Nat)) : (c_mtakeL3  fu v0 σ).1 k = σ.1 k := by
  simp only [List.mem_cons, List.not_mem_nil, or_false, not_or] at h
  induction fu generalizing σ v0 with
  | zero => rfl
  | succ fu ih =>
    unfold c_mtakeL3
    (repeat' split) <;> simp [mfl, mar, upF, h, ih, g1_mtakeL4]
theorem g1_mtakeL2  {fu : Nat} {v0 : Int} {σ : mS} {k : Nat} (h : k ∉ ([33, 39] : List Nat)) : (c_mtakeL2  fu v0 σ).1 k = σ.1 k := by
  simp only [List.mem_cons, List.not_mem_nil, or_false, not_or] at h
  induction fu generalizing σ v0 with
  | zero => rfl
  | succ fu ih =>
    unfold c_mtakeL2
    (repeat' split) <;> simp [mfl, mar, upF, h, ih, g1_mtakeL3]
theorem g1_mtakeL1  {fu : Nat} {v0 : Int} {σ : mS} {k : Nat} (h : k ∉ ([33, 39] : List Nat)) : (c_mtakeL1  fu v0 σ).1 k = σ.1 k := by
  simp only [List.mem_cons, List.not_mem_nil, or_false, not_or] at h
  induction fu generalizing σ v0 with
  | zero => rfl
  | succ fu ih =>
    unfold c_mtakeL1
    (repeat' split) <;> simp [mfl, mar, upF, h, ih, g1_mtakeL2]
theorem g1_mtake {σ : mS}  {k : Nat} (h : k ∉ ([33, 39, 24, 27, 29] : List Nat)) : (c_mtake σ ).1 k = σ.1 k := by
  simp only [List.mem_cons, List.not_mem_nil, or_false, not_or] at h
  unfold c_mtake
  (repeat' split) <;> simp [mfl, mar, upF, h, g1_mtakeL1]
theorem g2_mtakeL5  {fu : Nat} {v0 : Int} {σ : mS} {k : Nat} (h : k ∉ ([34, 35, 36, 40, 41, 25, 26, 28, 30, 31] : List Nat)) : (c_mtakeL5  fu v0 σ).2 k = σ.2 k := by
  simp only [List.mem_cons, List.not_mem_nil, or_false, not_or] at h
  induction fu generalizing σ v0 with
  | zero => rfl
  | succ fu ih =>
    unfold c_mtakeL5
    (repeat' split) <;> simp [mfl, mar, upF, h, ih]
theorem g2_mtakeL4  {fu : Nat} {v0 : Int} {σ : mS} {k : Nat} (h : k ∉ ([34, 35, 36, 40, 41, 25, 26, 28, 30, 31] : List Nat)) : (c_mtakeL4  fu v0 σ).2 k = σ.2 k := by
  simp only [List.mem_cons, List.not_mem_nil, or_false, not_or] at h
  induction fu generalizing σ v0 with
  | zero => rfl
  | succ fu ih =>
    unfold c_mtakeL4
    (repeat' split) <;> simp [mfl, mar, upF, h, ih, g2_mtakeL5]
theorem g2_mtakeL3  {fu : Nat} {v0 : Int} {σ : mS} {k : Nat} (h : k ∉ ([34, 35, 36, 40, 41, 25, 26, 28, 30, 31] : List Nat)) : (c_mtakeL3  fu v0 σ).2 k = σ.2 k := by
  simp only [List.mem_cons, List.not_mem_nil, or_false, not_or] at h
  induction fu generalizing σ v0 with
  | zero => rfl
  | succ fu ih =>
    unfold c_mtakeL3
    (repeat' split) <;> simp [mfl, mar, upF, h, ih, g2_mtakeL4]
theorem g2_mtakeL2  {fu : Nat} {v0 : Int} {σ : mS} {k : Nat} (h : k ∉ ([34, 35, 36, 40, 41, 25, 26, 28, 30, 31] : List Nat)) : (c_mtakeL2  fu v0 σ).2 k = σ.2 k := by
  simp only [List.mem_cons, List.not_mem_nil, or_false, not_or] at h
  induction fu generalizing σ v0 with
  | zero => rfl
  | succ fu ih =>
    unfold c_mtakeL2
    (repeat' split) <;> simp [mfl, mar, upF, h, ih, g2_mtakeL3]
theorem g2_mtakeL1  {fu : Nat} {v0 : Int} {σ : mS} {k : Nat} (h : k ∉ ([34, 35, 36, 40, 41, 25, 26, 28, 30, 31] : List Nat)) : (c_mtakeL1  fu v0 σ).2 k = σ.2 k := by
  simp only [List.mem_cons, List.not_mem_nil, or_false, not_or] at h
  induction fu generalizing σ v0 with
  | zero => rfl
  | succ fu ih =>
    unfold c_mtakeL1
    (repeat' split) <;> simp [mfl, mar, upF, h, ih, g2_mtakeL2]
theorem g2_mtake {σ : mS}  {k : Nat} (h : k ∉ ([34, 35, 36, 40, 41, 25, 26, 28, 30, 31] : List Nat)) : (c_mtake σ ).2 k = σ.2 k := by
  simp only [List.mem_cons, List.not_mem_nil, or_false, not_or] at h
  unfold c_mtake
  (repeat' split) <;> simp [mfl, mar, upF, h, g2_mtakeL1]
theorem take_24 {σ : mS} : (c_mtake σ).1 24 = σ.1 14 := by unfold c_mtake; rw [g1_mtakeL1 (by decide)]; rfl
theorem g1_mgoOn {σ : mS} {t : Int} {k : Nat} (h : k ∉ ([43, 44, 45] : List Nat)) : (c_mgoOn σ t).1 k = σ.1 k := by
  simp only [List.mem_cons, List.not_mem_nil, or_false, not_or] at h
  unfold c_mgoOn
  (repeat' split) <;> simp [mfl, mar, upF, h]
theorem g1_mcomesL {t : Int} {v : Int} {fu : Nat} {v0 : Int} {σ : mS} {k : Nat} (h : k ∉ ([43, 44, 45] : List Nat)) : (c_mcomesL t v fu v0 σ).2.1 k = σ.1 k := by
  simp only [List.mem_cons, List.not_mem_nil, or_false, not_or] at h
  induction fu generalizing σ v0 with
  | zero => rfl
  | succ fu ih =>
    unfold c_mcomesL
    (repeat' split) <;> simp [mfl, mar, upF, h, ih, g1_mgoOn]
theorem g1_mcomes {σ : mS} {t : Int} {v : Int} {k : Nat} (h : k ∉ ([43, 44, 45] : List Nat)) : (c_mcomes σ t v).2.1 k = σ.1 k := by
  simp only [List.mem_cons, List.not_mem_nil, or_false, not_or] at h
  unfold c_mcomes
  (repeat' split) <;> simp [mfl, mar, upF, h, g1_mcomesL]
theorem g1_mlacksL {t : Int} {fu : Nat} {v0 v1 : Int} {σ : mS} {k : Nat} (h : k ∉ ([43, 44, 45] : List Nat)) : (c_mlacksL t fu v0 v1 σ).2.1 k = σ.1 k := by
  simp only [List.mem_cons, List.not_mem_nil, or_false, not_or] at h
  induction fu generalizing σ v0 v1 with
  | zero => rfl
  | succ fu ih =>
    unfold c_mlacksL
    (repeat' split) <;> simp [mfl, mar, upF, h, ih, g1_mgoOn]
theorem g1_mlacks {σ : mS} {t : Int} {k : Nat} (h : k ∉ ([43, 44, 45] : List Nat)) : (c_mlacks σ t).2.1 k = σ.1 k := by
  simp only [List.mem_cons, List.not_mem_nil, or_false, not_or] at h
  unfold c_mlacks
  (repeat' split) <;> simp [mfl, mar, upF, h, g1_mlacksL]
theorem g2_mgoOn {σ : mS} {t : Int} {k : Nat} (h : k ∉ ([46, 47] : List Nat)) : (c_mgoOn σ t).2 k = σ.2 k := by
  simp only [List.mem_cons, List.not_mem_nil, or_false, not_or] at h
  unfold c_mgoOn
  (repeat' split) <;> simp [mfl, mar, upF, h]
theorem g2_mcomesL {t : Int} {v : Int} {fu : Nat} {v0 : Int} {σ : mS} {k : Nat} (h : k ∉ ([46, 47] : List Nat)) : (c_mcomesL t v fu v0 σ).2.2 k = σ.2 k := by
  simp only [List.mem_cons, List.not_mem_nil, or_false, not_or] at h
  induction fu generalizing σ v0 with
  | zero => rfl
  | succ fu ih =>
    unfold c_mcomesL
    (repeat' split) <;> simp [mfl, mar, upF, h, ih, g2_mgoOn]
theorem g2_mcomes {σ : mS} {t : Int} {v : Int} {k : Nat} (h : k ∉ ([46, 47] : List Nat)) : (c_mcomes σ t v).2.2 k = σ.2 k := by
  simp only [List.mem_cons, List.not_mem_nil, or_false, not_or] at h
  unfold c_mcomes
  (repeat' split) <;> simp [mfl, mar, upF, h, g2_mcomesL]
theorem g2_mlacksL {t : Int} {fu : Nat} {v0 v1 : Int} {σ : mS} {k : Nat} (h : k ∉ ([46, 47] : List Nat)) : (c_mlacksL t fu v0 v1 σ).2.2 k = σ.2 k := by
  simp only [List.mem_cons, List.not_mem_nil, or_false, not_or] at h
  induction fu generalizing σ v0 v1 with
  | zero => rfl
  | succ fu ih =>
    unfold c_mlacksL
    (repeat' split) <;> simp [mfl, mar, upF, h, ih, g2_mgoOn]
theorem g2_mlacks {σ : mS} {t : Int} {k : Nat} (h : k ∉ ([46, 47] : List Nat)) : (c_mlacks σ t).2.2 k = σ.2 k := by
  simp only [List.mem_cons, List.not_mem_nil, or_false, not_or] at h
  unfold c_mlacks
  (repeat' split) <;> simp [mfl, mar, upF, h, g2_mlacksL]
theorem g1_mjudgeL2 {i : Int} {fu : Nat} {v0 v1 v2 v3 : Int} {σ : mS} {k : Nat} (h : k ∉ ([43, 44, 45] : List Nat)) : (c_mjudgeL2 i fu v0 v1 v2 v3 σ).1 k = σ.1 k := by
  simp only [List.mem_cons, List.not_mem_nil, or_false, not_or] at h
  induction fu generalizing σ v0 v1 v2 v3 with
  | zero => rfl
  | succ fu ih =>
    unfold c_mjudgeL2
    (repeat' split) <;> simp [mfl, mar, upF, h, ih, g1_mcomes, g1_mlacks]
theorem g1_mjudgeL1 {i : Int} {fu : Nat} {v0 v1 v2 : Int} {σ : mS} {k : Nat} (h : k ∉ ([43, 44, 45] : List Nat)) : (c_mjudgeL1 i fu v0 v1 v2 σ).1 k = σ.1 k := by
  simp only [List.mem_cons, List.not_mem_nil, or_false, not_or] at h
  induction fu generalizing σ v0 v1 v2 with
  | zero => rfl
  | succ fu ih =>
    unfold c_mjudgeL1
    (repeat' split) <;> simp [mfl, mar, upF, h, ih, g1_mjudgeL2]
theorem g1_mjudge {σ : mS} {i : Int} {k : Nat} (h : k ∉ ([43, 44, 45] : List Nat)) : (c_mjudge σ i).1 k = σ.1 k := by
  simp only [List.mem_cons, List.not_mem_nil, or_false, not_or] at h
  unfold c_mjudge
  (repeat' split) <;> simp [mfl, mar, upF, h, g1_mjudgeL1]
theorem g2_mjudgeL2 {i : Int} {fu : Nat} {v0 v1 v2 v3 : Int} {σ : mS} {k : Nat} (h : k ∉ ([46, 47, 37, 38] : List Nat)) : (c_mjudgeL2 i fu v0 v1 v2 v3 σ).2 k = σ.2 k := by
  simp only [List.mem_cons, List.not_mem_nil, or_false, not_or] at h
  induction fu generalizing σ v0 v1 v2 v3 with
  | zero => rfl
  | succ fu ih =>
    unfold c_mjudgeL2
    (repeat' split) <;> simp [mfl, mar, upF, h, ih, g2_mcomes, g2_mlacks]
theorem g2_mjudgeL1 {i : Int} {fu : Nat} {v0 v1 v2 : Int} {σ : mS} {k : Nat} (h : k ∉ ([46, 47, 37, 38] : List Nat)) : (c_mjudgeL1 i fu v0 v1 v2 σ).2 k = σ.2 k := by
  simp only [List.mem_cons, List.not_mem_nil, or_false, not_or] at h
  induction fu generalizing σ v0 v1 v2 with
  | zero => rfl
  | succ fu ih =>
    unfold c_mjudgeL1
    (repeat' split) <;> simp [mfl, mar, upF, h, ih, g2_mjudgeL2]
theorem g2_mjudge {σ : mS} {i : Int} {k : Nat} (h : k ∉ ([46, 47, 37, 38] : List Nat)) : (c_mjudge σ i).2 k = σ.2 k := by
  simp only [List.mem_cons, List.not_mem_nil, or_false, not_or] at h
  unfold c_mjudge
  (repeat' split) <;> simp [mfl, mar, upF, h, g2_mjudgeL1]
theorem mT_congr {σ τ : mS} {t : Int} (h3 : τ.2 3 = σ.2 3) (h4 : τ.2 4 = σ.2 4) (h7 : τ.2 7 = σ.2 7) (h : mT σ t) : mT τ t := by
  unfold mT mi at h ⊢; rw [h3, h4, h7]; exact h
theorem mT_judge {σ : mS} {i t : Int} (h : mT σ t) : mT (c_mjudge σ i) t := mT_congr (g2_mjudge (by decide)) (g2_mjudge (by decide)) (g2_mjudge (by decide)) h
theorem mT_take {σ : mS} {t : Int} (h : mT σ t) : mT (c_mtake σ) t := mT_congr (g2_mtake (by decide)) (g2_mtake (by decide)) (g2_mtake (by decide)) h
