theorem y_eempty {e : Nat} {σ : cS} {y : Nat} (h : y ∉ ([e + 12, e + 14, e + 16, e + 18, e + 20, e + 22, e + 24, e + 26, e + 28] : List Nat)) : (c_eempty σ e).1 y = σ.1 y := by
  simp only [List.mem_cons, List.not_mem_nil, or_false, not_or] at h
  unfold c_eempty
  (repeat' split) <;> simp [cadd, cput, cemp, cI, upR, h]
theorem z_eempty {e : Nat} {σ : cS} {u w : Nat}  : (c_eempty σ e).2.1 u w = σ.2.1 u w := by
  unfold c_eempty
  (repeat' split) <;> simp [cadd, cput, cemp, cI, upI]
theorem y_takeMessageL {e : Nat} {g : Int} {fu : Nat} {v0 v1 : Int} {σ : cS} {y : Nat} (h : y ∉ ([e + 12, e + 14, e + 16, e + 18, e + 20, e + 22, e + 24, e + 26, e + 28] : List Nat)) : (c_takeMessageL e g fu v0 v1 σ).2.1 y = σ.1 y := by
  simp only [List.mem_cons, List.not_mem_nil, or_false, not_or] at h
  induction fu generalizing σ v0 v1 with
  | zero => rfl
  | succ fu ih =>
    unfold c_takeMessageL
    (repeat' split) <;> simp [ih, cadd, cput, cemp, cI, upR, h, y_eempty]
theorem z_takeMessageL {e : Nat} {g : Int} {fu : Nat} {v0 v1 : Int} {σ : cS} {u w : Nat} (h : ¬ (u = e ∧ w = 11)) : (c_takeMessageL e g fu v0 v1 σ).2.2.1 u w = σ.2.1 u w := by
  induction fu generalizing σ v0 v1 with
  | zero => rfl
  | succ fu ih =>
    unfold c_takeMessageL
    (repeat' split) <;> simp [ih, cadd, cput, cemp, cI, upI, h, z_eempty]
theorem y_takeMessage {e : Nat} {g : Int} {σ : cS} {y : Nat} (h : y ∉ ([e + 12, e + 14, e + 16, e + 18, e + 20, e + 22, e + 24, e + 26, e + 28] : List Nat)) : (c_takeMessage σ e g).2.1 y = σ.1 y := by
  simp only [List.mem_cons, List.not_mem_nil, or_false, not_or] at h
  unfold c_takeMessage
  (repeat' split) <;> simp [cadd, cput, cemp, cI, upR, h, y_eempty, y_takeMessageL]
theorem z_takeMessage {e : Nat} {g : Int} {σ : cS} {u w : Nat} (h : ¬ (u = e ∧ w = 11)) : (c_takeMessage σ e g).2.2.1 u w = σ.2.1 u w := by
  unfold c_takeMessage
  (repeat' split) <;> simp [cadd, cput, cemp, cI, upI, h, z_eempty, z_takeMessageL]
theorem y_takeGroupL {e : Nat} {fu : Nat} {v0 v1 v2 : Int} {σ : cS} {y : Nat} (h : y ∉ ([e + 12, e + 14, e + 16, e + 18, e + 20, e + 22, e + 24, e + 26, e + 28] : List Nat)) : (c_takeGroupL e fu v0 v1 v2 σ).2.1 y = σ.1 y := by
  simp only [List.mem_cons, List.not_mem_nil, or_false, not_or] at h
  induction fu generalizing σ v0 v1 v2 with
  | zero => rfl
  | succ fu ih =>
    unfold c_takeGroupL
    (repeat' split) <;> simp [ih, cadd, cput, cemp, cI, upR, h, y_eempty, y_takeMessageL, y_takeMessage]
theorem z_takeGroupL {e : Nat} {fu : Nat} {v0 v1 v2 : Int} {σ : cS} {u w : Nat} (h : ¬ (u = e ∧ w = 11)) : (c_takeGroupL e fu v0 v1 v2 σ).2.2.1 u w = σ.2.1 u w := by
  induction fu generalizing σ v0 v1 v2 with
  | zero => rfl
  | succ fu ih =>
    unfold c_takeGroupL
    (repeat' split) <;> simp [ih, cadd, cput, cemp, cI, upI, h, z_eempty, z_takeMessageL, z_takeMessage]
theorem y_takeGroup {e : Nat} {σ : cS} {y : Nat} (h : y ∉ ([e + 12, e + 14, e + 16, e + 18, e + 20, e + 22, e + 24, e + 26, e + 28] : List Nat)) : (c_takeGroup σ e).2.1 y = σ.1 y := by
  simp only [List.mem_cons, List.not_mem_nil, or_false, not_or] at h
  unfold c_takeGroup
  (repeat' split) <;> simp [cadd, cput, cemp, cI, upR, h, y_eempty, y_takeMessageL, y_takeMessage, y_takeGroupL]
theorem z_takeGroup {e : Nat} {σ : cS} {u w : Nat} (h : ¬ (u = e ∧ w = 11)) : (c_takeGroup σ e).2.2.1 u w = σ.2.1 u w := by
  unfold c_takeGroup
  (repeat' split) <;> simp [cadd, cput, cemp, cI, upI, h, z_eempty, z_takeMessageL, z_takeMessage, z_takeGroupL]
theorem y_fitL {e : Nat} {fu : Nat} {v0 v1 v2 : Int} {σ : cS} {y : Nat} (h : y ∉ ([e + 12, e + 14, e + 16, e + 18, e + 20, e + 22, e + 24, e + 26, e + 28] : List Nat)) : (c_fitL e fu v0 v1 v2 σ).2.1 y = σ.1 y := by
  simp only [List.mem_cons, List.not_mem_nil, or_false, not_or] at h
  induction fu generalizing σ v0 v1 v2 with
  | zero => rfl
  | succ fu ih =>
    unfold c_fitL
    (repeat' split) <;> simp [ih, cadd, cput, cemp, cI, upR, h, y_eempty, y_takeMessageL, y_takeMessage, y_takeGroupL, y_takeGroup]
theorem z_fitL {e : Nat} {fu : Nat} {v0 v1 v2 : Int} {σ : cS} {u w : Nat} (h : ¬ (u = e ∧ w = 11)) : (c_fitL e fu v0 v1 v2 σ).2.2.1 u w = σ.2.1 u w := by
  induction fu generalizing σ v0 v1 v2 with
  | zero => rfl
  | succ fu ih =>
    unfold c_fitL
    (repeat' split) <;> simp [ih, cadd, cput, cemp, cI, upI, h, z_eempty, z_takeMessageL, z_takeMessage, z_takeGroupL, z_takeGroup]
theorem y_fit {e : Nat} {σ : cS} {y : Nat} (h : y ∉ ([e + 12, e + 14, e + 16, e + 18, e + 20, e + 22, e + 24, e + 26, e + 28] : List Nat)) : (c_fit σ e).2.1 y = σ.1 y := by
  simp only [List.mem_cons, List.not_mem_nil, or_false, not_or] at h
  unfold c_fit
  (repeat' split) <;> simp [cadd, cput, cemp, cI, upR, h, y_eempty, y_takeMessageL, y_takeMessage, y_takeGroupL, y_takeGroup, y_fitL]
theorem z_fit {e : Nat} {σ : cS} {u w : Nat} (h : ¬ (u = e ∧ w = 11)) : (c_fit σ e).2.2.1 u w = σ.2.1 u w := by
  unfold c_fit
  (repeat' split) <;> simp [cadd, cput, cemp, cI, upI, h, z_eempty, z_takeMessageL, z_takeMessage, z_takeGroupL, z_takeGroup, z_fitL]
