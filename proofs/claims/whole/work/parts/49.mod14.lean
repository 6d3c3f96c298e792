theorem g1_mmarksL  {fu : Nat} {v0 : Int} {σ : mS} {k : Nat} (h : k ∉ ([9, 10, 11, 12, 13] : List Nat)) : (c_mmarksL  fu v0 σ).2.1 k = σ.1 k := by
  simp only [List.mem_cons, List.not_mem_nil, or_false, not_or] at h
  induction fu generalizing σ v0 with
  | zero => rfl
  | succ fu ih =>
    unfold c_mmarksL
    (repeat' split) <;> simp [mfl, mar, upF, h, ih]
theorem g1_mmarks {σ : mS}  {k : Nat} (h : k ∉ ([9, 10, 11, 12, 13] : List Nat)) : (c_mmarks σ ).2.1 k = σ.1 k := by
  simp only [List.mem_cons, List.not_mem_nil, or_false, not_or] at h
  unfold c_mmarks
  (repeat' split) <;> simp [mfl, mar, upF, h, g1_mmarksL]
theorem g2_mmarksL  {fu : Nat} {v0 : Int} {σ : mS} {k : Nat} (h : k ∉ ([99] : List Nat)) : (c_mmarksL  fu v0 σ).2.2 k = σ.2 k := by
  simp only [List.mem_cons, List.not_mem_nil, or_false, not_or] at h
  induction fu generalizing σ v0 with
  | zero => rfl
  | succ fu ih =>
    unfold c_mmarksL
    (repeat' split) <;> simp [mfl, mar, upF, h, ih]
theorem g2_mmarks {σ : mS}  {k : Nat} (h : k ∉ ([99] : List Nat)) : (c_mmarks σ ).2.2 k = σ.2 k := by
  simp only [List.mem_cons, List.not_mem_nil, or_false, not_or] at h
  unfold c_mmarks
  (repeat' split) <;> simp [mfl, mar, upF, h, g2_mmarksL]
theorem g1_mbeginComponent {σ : mS}  {k : Nat} (h : k ∉ ([14, 17, 19, 21] : List Nat)) : (c_mbeginComponent σ ).1 k = σ.1 k := by
  simp only [List.mem_cons, List.not_mem_nil, or_false, not_or] at h
  unfold c_mbeginComponent
  (repeat' split) <;> simp [mfl, mar, upF, h]
theorem g1_mbeginElement {σ : mS}  {k : Nat} (h : k ∉ ([14, 17, 19, 21] : List Nat)) : (c_mbeginElement σ ).1 k = σ.1 k := by
  simp only [List.mem_cons, List.not_mem_nil, or_false, not_or] at h
  unfold c_mbeginElement
  (repeat' split) <;> simp [mfl, mar, upF, h, g1_mbeginComponent]
theorem g1_mput {σ : mS} {c : Int} {k : Nat} (h : k ∉ ([14, 17, 19, 21] : List Nat)) : (c_mput σ c).1 k = σ.1 k := by
  simp only [List.mem_cons, List.not_mem_nil, or_false, not_or] at h
  unfold c_mput
  (repeat' split) <;> simp [mfl, mar, upF, h]
theorem g1_mnext {σ : mS} {a : Int} {c : Int} {k : Nat} (h : k ∉ ([14, 17, 19, 21] : List Nat)) : (c_mnext σ a c).2.1 k = σ.1 k := by
  simp only [List.mem_cons, List.not_mem_nil, or_false, not_or] at h
  unfold c_mnext
  (repeat' split) <;> simp [mfl, mar, upF, h, g1_mbeginComponent, g1_mbeginElement, g1_mput]
theorem g2_mbeginComponent {σ : mS}  {k : Nat} (h : k ∉ ([15, 16, 18, 20, 22] : List Nat)) : (c_mbeginComponent σ ).2 k = σ.2 k := by
  simp only [List.mem_cons, List.not_mem_nil, or_false, not_or] at h
  unfold c_mbeginComponent
  (repeat' split) <;> simp [mfl, mar, upF, h]
theorem g2_mbeginElement {σ : mS}  {k : Nat} (h : k ∉ ([15, 16, 18, 20, 22] : List Nat)) : (c_mbeginElement σ ).2 k = σ.2 k := by
  simp only [List.mem_cons, List.not_mem_nil, or_false, not_or] at h
  unfold c_mbeginElement
  (repeat' split) <;> simp [mfl, mar, upF, h, g2_mbeginComponent]
theorem g2_mput {σ : mS} {c : Int} {k : Nat} (h : k ∉ ([15, 16, 18, 20, 22] : List Nat)) : (c_mput σ c).2 k = σ.2 k := by
  simp only [List.mem_cons, List.not_mem_nil, or_false, not_or] at h
  unfold c_mput
  (repeat' split) <;> simp [mfl, mar, upF, h]
theorem g2_mnext {σ : mS} {a : Int} {c : Int} {k : Nat} (h : k ∉ ([15, 16, 18, 20, 22] : List Nat)) : (c_mnext σ a c).2.2 k = σ.2 k := by
  simp only [List.mem_cons, List.not_mem_nil, or_false, not_or] at h
  unfold c_mnext
  (repeat' split) <;> simp [mfl, mar, upF, h, g2_mbeginComponent, g2_mbeginElement, g2_mput]
theorem g1_mscansL  {fu : Nat} {v0 v1 : Int} {σ : mS} {k : Nat} (h : k ∉ ([14, 17, 19, 21, 13] : List Nat)) : (c_mscansL  fu v0 v1 σ).2.1 k = σ.1 k := by
  simp only [List.mem_cons, List.not_mem_nil, or_false, not_or] at h
  induction fu generalizing σ v0 v1 with
  | zero => rfl
  | succ fu ih =>
    unfold c_mscansL
    (repeat' split) <;> simp [mfl, mar, upF, h, ih, g1_mnext]
theorem g1_mscans {σ : mS}  {k : Nat} (h : k ∉ ([9, 10, 11, 12, 13, 14, 17, 19, 21] : List Nat)) : (c_mscans σ ).2.1 k = σ.1 k := by
  simp only [List.mem_cons, List.not_mem_nil, or_false, not_or] at h
  unfold c_mscans
  (repeat' split) <;> simp [mfl, mar, upF, h, g1_mscansL, g1_mmarks]
theorem g2_mscansL  {fu : Nat} {v0 v1 : Int} {σ : mS} {k : Nat} (h : k ∉ ([15, 16, 18, 20, 22] : List Nat)) : (c_mscansL  fu v0 v1 σ).2.2 k = σ.2 k := by
  simp only [List.mem_cons, List.not_mem_nil, or_false, not_or] at h
  induction fu generalizing σ v0 v1 with
  | zero => rfl
  | succ fu ih =>
    unfold c_mscansL
    (repeat' split) <;> simp [mfl, mar, upF, h, ih, g2_mnext]
theorem g2_mscans {σ : mS}  {k : Nat} (h : k ∉ ([15, 16, 18, 20, 22, 99] : List Nat)) : (c_mscans σ ).2.2 k = σ.2 k := by
  simp only [List.mem_cons, List.not_mem_nil, or_false, not_or] at h
  unfold c_mscans
  (repeat' split) <;> simp [mfl, mar, upF, h, g2_mscansL, g2_mmarks]
