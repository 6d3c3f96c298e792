theorem y_putTag {q : Nat} {t : Int} {σ : cS} {y : Nat} (h : y ∉ ([q + 1] : List Nat)) : (c_putTag σ q t).1 y = σ.1 y := by
  simp only [List.mem_cons, List.not_mem_nil, or_false, not_or] at h
  unfold c_putTag
  (repeat' split) <;> simp [cadd, cput, cemp, cI, upR, h]
theorem z_putTag {q : Nat} {t : Int} {σ : cS} {u w : Nat}  : (c_putTag σ q t).2.1 u w = σ.2.1 u w := by
  unfold c_putTag
  (repeat' split) <;> simp [cadd, cput, cemp, cI, upI]
theorem y_putNumber {q : Nat} {c : Int} {σ : cS} {y : Nat} (h : y ∉ ([q + 1] : List Nat)) : (c_putNumber σ q c).1 y = σ.1 y := by
  simp only [List.mem_cons, List.not_mem_nil, or_false, not_or] at h
  unfold c_putNumber
  (repeat' split) <;> simp [cadd, cput, cemp, cI, upR, h, y_putTag]
theorem z_putNumber {q : Nat} {c : Int} {σ : cS} {u w : Nat}  : (c_putNumber σ q c).2.1 u w = σ.2.1 u w := by
  unfold c_putNumber
  (repeat' split) <;> simp [cadd, cput, cemp, cI, upI, z_putTag]
theorem y_putComponentL {q : Nat} {p : Nat} {c : Int} {fu : Nat} {v0 v1 : Int} {σ : cS} {y : Nat} (h : y ∉ ([q + 1] : List Nat)) : (c_putComponentL q p c fu v0 v1 σ).1 y = σ.1 y := by
  simp only [List.mem_cons, List.not_mem_nil, or_false, not_or] at h
  induction fu generalizing σ v0 v1 with
  | zero => rfl
  | succ fu ih =>
    unfold c_putComponentL
    (repeat' split) <;> simp [ih, cadd, cput, cemp, cI, upR, h, y_putTag, y_putNumber]
theorem z_putComponentL {q : Nat} {p : Nat} {c : Int} {fu : Nat} {v0 v1 : Int} {σ : cS} {u w : Nat}  : (c_putComponentL q p c fu v0 v1 σ).2.1 u w = σ.2.1 u w := by
  induction fu generalizing σ v0 v1 with
  | zero => rfl
  | succ fu ih =>
    unfold c_putComponentL
    (repeat' split) <;> simp [ih, cadd, cput, cemp, cI, upI, z_putTag, z_putNumber]
theorem y_putComponent {q : Nat} {p : Nat} {c : Int} {σ : cS} {y : Nat} (h : y ∉ ([q + 1] : List Nat)) : (c_putComponent σ q p c).1 y = σ.1 y := by
  simp only [List.mem_cons, List.not_mem_nil, or_false, not_or] at h
  unfold c_putComponent
  (repeat' split) <;> simp [cadd, cput, cemp, cI, upR, h, y_putTag, y_putNumber, y_putComponentL]
theorem z_putComponent {q : Nat} {p : Nat} {c : Int} {σ : cS} {u w : Nat}  : (c_putComponent σ q p c).2.1 u w = σ.2.1 u w := by
  unfold c_putComponent
  (repeat' split) <;> simp [cadd, cput, cemp, cI, upI, z_putTag, z_putNumber, z_putComponentL]
theorem y_putElementL {q : Nat} {p : Nat} {g : Int} {fu : Nat} {v0 v1 v2 : Int} {σ : cS} {y : Nat} (h : y ∉ ([q + 1] : List Nat)) : (c_putElementL q p g fu v0 v1 v2 σ).1 y = σ.1 y := by
  simp only [List.mem_cons, List.not_mem_nil, or_false, not_or] at h
  induction fu generalizing σ v0 v1 v2 with
  | zero => rfl
  | succ fu ih =>
    unfold c_putElementL
    (repeat' split) <;> simp [ih, cadd, cput, cemp, cI, upR, h, y_putTag, y_putNumber, y_putComponentL, y_putComponent]
theorem z_putElementL {q : Nat} {p : Nat} {g : Int} {fu : Nat} {v0 v1 v2 : Int} {σ : cS} {u w : Nat}  : (c_putElementL q p g fu v0 v1 v2 σ).2.1 u w = σ.2.1 u w := by
  induction fu generalizing σ v0 v1 v2 with
  | zero => rfl
  | succ fu ih =>
    unfold c_putElementL
    (repeat' split) <;> simp [ih, cadd, cput, cemp, cI, upI, z_putTag, z_putNumber, z_putComponentL, z_putComponent]
theorem y_putElement {q : Nat} {p : Nat} {g : Int} {σ : cS} {y : Nat} (h : y ∉ ([q + 1] : List Nat)) : (c_putElement σ q p g).1 y = σ.1 y := by
  simp only [List.mem_cons, List.not_mem_nil, or_false, not_or] at h
  unfold c_putElement
  (repeat' split) <;> simp [cadd, cput, cemp, cI, upR, h, y_putTag, y_putNumber, y_putComponentL, y_putComponent, y_putElementL]
theorem z_putElement {q : Nat} {p : Nat} {g : Int} {σ : cS} {u w : Nat}  : (c_putElement σ q p g).2.1 u w = σ.2.1 u w := by
  unfold c_putElement
  (repeat' split) <;> simp [cadd, cput, cemp, cI, upI, z_putTag, z_putNumber, z_putComponentL, z_putComponent, z_putElementL]
theorem y_putVerdict {q : Nat} {t : Int} {p : Nat} {r : Int} {c : Int} {σ : cS} {y : Nat} (h : y ∉ ([q + 1] : List Nat)) : (c_putVerdict σ q t p r c).1 y = σ.1 y := by
  simp only [List.mem_cons, List.not_mem_nil, or_false, not_or] at h
  unfold c_putVerdict
  (repeat' split) <;> simp [cadd, cput, cemp, cI, upR, h, y_putTag, y_putNumber, y_putComponentL, y_putComponent, y_putElementL, y_putElement]
theorem z_putVerdict {q : Nat} {t : Int} {p : Nat} {r : Int} {c : Int} {σ : cS} {u w : Nat}  : (c_putVerdict σ q t p r c).2.1 u w = σ.2.1 u w := by
  unfold c_putVerdict
  (repeat' split) <;> simp [cadd, cput, cemp, cI, upI, z_putTag, z_putNumber, z_putComponentL, z_putComponent, z_putElementL, z_putElement]
theorem y_writePrintI {q : Nat} {p : Nat} {s : Int} {n : Int} {fu : Nat} {v0 : Int} {σ : cS} {y : Nat} (h : y ∉ ([q + 1] : List Nat)) : (c_writePrintI q p s n fu v0 σ).1 y = σ.1 y := by
  simp only [List.mem_cons, List.not_mem_nil, or_false, not_or] at h
  induction fu generalizing σ v0 with
  | zero => rfl
  | succ fu ih =>
    unfold c_writePrintI
    (repeat' split) <;> simp [ih, cadd, cput, cemp, cI, upR, h, y_putTag, y_putNumber, y_putComponentL, y_putComponent, y_putElementL, y_putElement, y_putVerdict]
theorem z_writePrintI {q : Nat} {p : Nat} {s : Int} {n : Int} {fu : Nat} {v0 : Int} {σ : cS} {u w : Nat}  : (c_writePrintI q p s n fu v0 σ).2.1 u w = σ.2.1 u w := by
  induction fu generalizing σ v0 with
  | zero => rfl
  | succ fu ih =>
    unfold c_writePrintI
    (repeat' split) <;> simp [ih, cadd, cput, cemp, cI, upI, z_putTag, z_putNumber, z_putComponentL, z_putComponent, z_putElementL, z_putElement, z_putVerdict]
theorem y_writePrintL {q : Nat} {p : Nat} {fu : Nat} {v0 : Int} {σ : cS} {y : Nat} (h : y ∉ ([q + 1] : List Nat)) : (c_writePrintL q p fu v0 σ).1 y = σ.1 y := by
  simp only [List.mem_cons, List.not_mem_nil, or_false, not_or] at h
  induction fu generalizing σ v0 with
  | zero => rfl
  | succ fu ih =>
    unfold c_writePrintL
    (repeat' split) <;> simp [ih, cadd, cput, cemp, cI, upR, h, y_putTag, y_putNumber, y_putComponentL, y_putComponent, y_putElementL, y_putElement, y_putVerdict, y_writePrintI]
theorem z_writePrintL {q : Nat} {p : Nat} {fu : Nat} {v0 : Int} {σ : cS} {u w : Nat}  : (c_writePrintL q p fu v0 σ).2.1 u w = σ.2.1 u w := by
  induction fu generalizing σ v0 with
  | zero => rfl
  | succ fu ih =>
    unfold c_writePrintL
    (repeat' split) <;> simp [ih, cadd, cput, cemp, cI, upI, z_putTag, z_putNumber, z_putComponentL, z_putComponent, z_putElementL, z_putElement, z_putVerdict, z_writePrintI]
theorem y_writePrint {q : Nat} {p : Nat} {σ : cS} {y : Nat} (h : y ∉ ([q + 1] : List Nat)) : (c_writePrint σ q p).1 y = σ.1 y := by
  simp only [List.mem_cons, List.not_mem_nil, or_false, not_or] at h
  unfold c_writePrint
  (repeat' split) <;> simp [cadd, cput, cemp, cI, upR, h, y_putTag, y_putNumber, y_putComponentL, y_putComponent, y_putElementL, y_putElement, y_putVerdict, y_writePrintI, y_writePrintL]
theorem z_writePrint {q : Nat} {p : Nat} {σ : cS} {u w : Nat}  : (c_writePrint σ q p).2.1 u w = σ.2.1 u w := by
  unfold c_writePrint
  (repeat' split) <;> simp [cadd, cput, cemp, cI, upI, z_putTag, z_putNumber, z_putComponentL, z_putComponent, z_putElementL, z_putElement, z_putVerdict, z_writePrintI, z_writePrintL]
theorem y_writeReportL {q : Nat} {e : Nat} {fu : Nat} {v0 v1 : Int} {σ : cS} {y : Nat} (h : y ∉ ([q + 1] : List Nat)) : (c_writeReportL q e fu v0 v1 σ).1 y = σ.1 y := by
  simp only [List.mem_cons, List.not_mem_nil, or_false, not_or] at h
  induction fu generalizing σ v0 v1 with
  | zero => rfl
  | succ fu ih =>
    unfold c_writeReportL
    (repeat' split) <;> simp [ih, cadd, cput, cemp, cI, upR, h, y_putTag, y_putNumber, y_putComponentL, y_putComponent, y_putElementL, y_putElement, y_putVerdict, y_writePrintI, y_writePrintL, y_writePrint]
theorem z_writeReportL {q : Nat} {e : Nat} {fu : Nat} {v0 v1 : Int} {σ : cS} {u w : Nat}  : (c_writeReportL q e fu v0 v1 σ).2.1 u w = σ.2.1 u w := by
  induction fu generalizing σ v0 v1 with
  | zero => rfl
  | succ fu ih =>
    unfold c_writeReportL
    (repeat' split) <;> simp [ih, cadd, cput, cemp, cI, upI, z_putTag, z_putNumber, z_putComponentL, z_putComponent, z_putElementL, z_putElement, z_putVerdict, z_writePrintI, z_writePrintL, z_writePrint]
theorem y_writeReport {q : Nat} {e : Nat} {σ : cS} {y : Nat} (h : y ∉ ([q + 1] : List Nat)) : (c_writeReport σ q e).1 y = σ.1 y := by
  simp only [List.mem_cons, List.not_mem_nil, or_false, not_or] at h
  unfold c_writeReport
  (repeat' split) <;> simp [cadd, cput, cemp, cI, upR, h, y_putTag, y_putNumber, y_putComponentL, y_putComponent, y_putElementL, y_putElement, y_putVerdict, y_writePrintI, y_writePrintL, y_writePrint, y_writeReportL]
theorem z_writeReport {q : Nat} {e : Nat} {σ : cS} {u w : Nat}  : (c_writeReport σ q e).2.1 u w = σ.2.1 u w := by
  unfold c_writeReport
  (repeat' split) <;> simp [cadd, cput, cemp, cI, upI, z_putTag, z_putNumber, z_putComponentL, z_putComponent, z_putElementL, z_putElement, z_putVerdict, z_writePrintI, z_writePrintL, z_writePrint, z_writeReportL]
