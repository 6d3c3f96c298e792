theorem y_pempty {p : Nat} {σ : cS} {y : Nat} (h : y ∉ ([p + 1, p + 3, p + 5, p + 7, p + 9] : List Nat)) : (c_pempty σ p).1 y = σ.1 y := by
  simp only [List.mem_cons, List.not_mem_nil, or_false, not_or] at h
  unfold c_pempty
  (repeat' split) <;> simp [cadd, cput, cemp, cI, upR, h]
theorem z_pempty {p : Nat} {σ : cS} {u w : Nat}  : (c_pempty σ p).2.1 u w = σ.2.1 u w := by
  unfold c_pempty
  (repeat' split) <;> simp [cadd, cput, cemp, cI, upI]
theorem y_addSegment {p : Nat} {v : Int} {σ : cS} {y : Nat} (h : y ∉ ([p + 1, p + 3, p + 5, p + 7, p + 9] : List Nat)) : (c_addSegment σ p v).1 y = σ.1 y := by
  simp only [List.mem_cons, List.not_mem_nil, or_false, not_or] at h
  unfold c_addSegment
  (repeat' split) <;> simp [cadd, cput, cemp, cI, upR, h, y_pempty]
theorem z_addSegment {p : Nat} {v : Int} {σ : cS} {u w : Nat}  : (c_addSegment σ p v).2.1 u w = σ.2.1 u w := by
  unfold c_addSegment
  (repeat' split) <;> simp [cadd, cput, cemp, cI, upI, z_pempty]
theorem y_addElement {p : Nat} {σ : cS} {y : Nat} (h : y ∉ ([p + 1, p + 3, p + 5, p + 7, p + 9] : List Nat)) : (c_addElement σ p).1 y = σ.1 y := by
  simp only [List.mem_cons, List.not_mem_nil, or_false, not_or] at h
  unfold c_addElement
  (repeat' split) <;> simp [cadd, cput, cemp, cI, upR, h, y_pempty, y_addSegment]
theorem z_addElement {p : Nat} {σ : cS} {u w : Nat}  : (c_addElement σ p).2.1 u w = σ.2.1 u w := by
  unfold c_addElement
  (repeat' split) <;> simp [cadd, cput, cemp, cI, upI, z_pempty, z_addSegment]
theorem y_addComponent {p : Nat} {σ : cS} {y : Nat} (h : y ∉ ([p + 1, p + 3, p + 5, p + 7, p + 9] : List Nat)) : (c_addComponent σ p).1 y = σ.1 y := by
  simp only [List.mem_cons, List.not_mem_nil, or_false, not_or] at h
  unfold c_addComponent
  (repeat' split) <;> simp [cadd, cput, cemp, cI, upR, h, y_pempty, y_addSegment, y_addElement]
theorem z_addComponent {p : Nat} {σ : cS} {u w : Nat}  : (c_addComponent σ p).2.1 u w = σ.2.1 u w := by
  unfold c_addComponent
  (repeat' split) <;> simp [cadd, cput, cemp, cI, upI, z_pempty, z_addSegment, z_addElement]
theorem y_addCharacter {p : Nat} {v : Int} {σ : cS} {y : Nat} (h : y ∉ ([p + 1, p + 3, p + 5, p + 7, p + 9] : List Nat)) : (c_addCharacter σ p v).1 y = σ.1 y := by
  simp only [List.mem_cons, List.not_mem_nil, or_false, not_or] at h
  unfold c_addCharacter
  (repeat' split) <;> simp [cadd, cput, cemp, cI, upR, h, y_pempty, y_addSegment, y_addElement, y_addComponent]
theorem z_addCharacter {p : Nat} {v : Int} {σ : cS} {u w : Nat}  : (c_addCharacter σ p v).2.1 u w = σ.2.1 u w := by
  unfold c_addCharacter
  (repeat' split) <;> simp [cadd, cput, cemp, cI, upI, z_pempty, z_addSegment, z_addElement, z_addComponent]
theorem y_finish {p : Nat} {σ : cS} {y : Nat} (h : y ∉ ([p + 1, p + 3, p + 5, p + 7, p + 9] : List Nat)) : (c_finish σ p).1 y = σ.1 y := by
  simp only [List.mem_cons, List.not_mem_nil, or_false, not_or] at h
  unfold c_finish
  (repeat' split) <;> simp [cadd, cput, cemp, cI, upR, h, y_pempty, y_addSegment, y_addElement, y_addComponent, y_addCharacter]
theorem z_finish {p : Nat} {σ : cS} {u w : Nat}  : (c_finish σ p).2.1 u w = σ.2.1 u w := by
  unfold c_finish
  (repeat' split) <;> simp [cadd, cput, cemp, cI, upI, z_pempty, z_addSegment, z_addElement, z_addComponent, z_addCharacter]
theorem y_takeChoice {x : Nat} {c : Int} {σ : cS} {y : Nat}  : (c_takeChoice σ x c).2.1 y = σ.1 y := by
  unfold c_takeChoice
  (repeat' split) <;> simp [cadd, cput, cemp, cI, upR, y_pempty, y_addSegment, y_addElement, y_addComponent, y_addCharacter, y_finish]
theorem z_takeChoice {x : Nat} {c : Int} {σ : cS} {u w : Nat} (h : u ≠ x) : (c_takeChoice σ x c).2.2.1 u w = σ.2.1 u w := by
  unfold c_takeChoice
  (repeat' split) <;> simp [cadd, cput, cemp, cI, upI, h, z_pempty, z_addSegment, z_addElement, z_addComponent, z_addCharacter, z_finish]
theorem y_takeMarksL {x : Nat} {fu : Nat} {σ : cS} {y : Nat}  : (c_takeMarksL x fu  σ).2.1 y = σ.1 y := by
  induction fu generalizing σ  with
  | zero => rfl
  | succ fu ih =>
    unfold c_takeMarksL
    (repeat' split) <;> simp [ih, cadd, cput, cemp, cI, upR, y_pempty, y_addSegment, y_addElement, y_addComponent, y_addCharacter, y_finish, y_takeChoice]
theorem z_takeMarksL {x : Nat} {fu : Nat} {σ : cS} {u w : Nat} (h : u ≠ x) : (c_takeMarksL x fu  σ).2.2.1 u w = σ.2.1 u w := by
  induction fu generalizing σ  with
  | zero => rfl
  | succ fu ih =>
    unfold c_takeMarksL
    (repeat' split) <;> simp [ih, cadd, cput, cemp, cI, upI, h, z_pempty, z_addSegment, z_addElement, z_addComponent, z_addCharacter, z_finish, z_takeChoice]
theorem y_takeMarks {x : Nat} {σ : cS} {y : Nat}  : (c_takeMarks σ x).2.1 y = σ.1 y := by
  unfold c_takeMarks
  (repeat' split) <;> simp [cadd, cput, cemp, cI, upR, y_pempty, y_addSegment, y_addElement, y_addComponent, y_addCharacter, y_finish, y_takeChoice, y_takeMarksL]
theorem z_takeMarks {x : Nat} {σ : cS} {u w : Nat} (h : u ≠ x) : (c_takeMarks σ x).2.2.1 u w = σ.2.1 u w := by
  unfold c_takeMarks
  (repeat' split) <;> simp [cadd, cput, cemp, cI, upI, h, z_pempty, z_addSegment, z_addElement, z_addComponent, z_addCharacter, z_finish, z_takeChoice, z_takeMarksL]
theorem y_takeComponentL {x : Nat} {p : Nat} {fu : Nat} {σ : cS} {y : Nat} (h : y ∉ ([p + 1, p + 3, p + 5, p + 7, p + 9] : List Nat)) : (c_takeComponentL x p fu  σ).1 y = σ.1 y := by
  simp only [List.mem_cons, List.not_mem_nil, or_false, not_or] at h
  induction fu generalizing σ  with
  | zero => rfl
  | succ fu ih =>
    unfold c_takeComponentL
    (repeat' split) <;> simp [ih, cadd, cput, cemp, cI, upR, h, y_pempty, y_addSegment, y_addElement, y_addComponent, y_addCharacter, y_finish, y_takeChoice, y_takeMarksL, y_takeMarks]
theorem z_takeComponentL {x : Nat} {p : Nat} {fu : Nat} {σ : cS} {u w : Nat} (h : u ≠ x) : (c_takeComponentL x p fu  σ).2.1 u w = σ.2.1 u w := by
  induction fu generalizing σ  with
  | zero => rfl
  | succ fu ih =>
    unfold c_takeComponentL
    (repeat' split) <;> simp [ih, cadd, cput, cemp, cI, upI, h, z_pempty, z_addSegment, z_addElement, z_addComponent, z_addCharacter, z_finish, z_takeChoice, z_takeMarksL, z_takeMarks]
theorem y_takeComponent {x : Nat} {p : Nat} {σ : cS} {y : Nat} (h : y ∉ ([p + 1, p + 3, p + 5, p + 7, p + 9] : List Nat)) : (c_takeComponent σ x p).1 y = σ.1 y := by
  simp only [List.mem_cons, List.not_mem_nil, or_false, not_or] at h
  unfold c_takeComponent
  (repeat' split) <;> simp [cadd, cput, cemp, cI, upR, h, y_pempty, y_addSegment, y_addElement, y_addComponent, y_addCharacter, y_finish, y_takeChoice, y_takeMarksL, y_takeMarks, y_takeComponentL]
theorem z_takeComponent {x : Nat} {p : Nat} {σ : cS} {u w : Nat} (h : u ≠ x) : (c_takeComponent σ x p).2.1 u w = σ.2.1 u w := by
  unfold c_takeComponent
  (repeat' split) <;> simp [cadd, cput, cemp, cI, upI, h, z_pempty, z_addSegment, z_addElement, z_addComponent, z_addCharacter, z_finish, z_takeChoice, z_takeMarksL, z_takeMarks, z_takeComponentL]
theorem y_takeElementL {x : Nat} {p : Nat} {fu : Nat} {v0 : Int} {σ : cS} {y : Nat} (h : y ∉ ([p + 1, p + 3, p + 5, p + 7, p + 9] : List Nat)) : (c_takeElementL x p fu v0 σ).1 y = σ.1 y := by
  simp only [List.mem_cons, List.not_mem_nil, or_false, not_or] at h
  induction fu generalizing σ v0 with
  | zero => rfl
  | succ fu ih =>
    unfold c_takeElementL
    (repeat' split) <;> simp [ih, cadd, cput, cemp, cI, upR, h, y_pempty, y_addSegment, y_addElement, y_addComponent, y_addCharacter, y_finish, y_takeChoice, y_takeMarksL, y_takeMarks, y_takeComponentL, y_takeComponent]
theorem z_takeElementL {x : Nat} {p : Nat} {fu : Nat} {v0 : Int} {σ : cS} {u w : Nat} (h : u ≠ x) : (c_takeElementL x p fu v0 σ).2.1 u w = σ.2.1 u w := by
  induction fu generalizing σ v0 with
  | zero => rfl
  | succ fu ih =>
    unfold c_takeElementL
    (repeat' split) <;> simp [ih, cadd, cput, cemp, cI, upI, h, z_pempty, z_addSegment, z_addElement, z_addComponent, z_addCharacter, z_finish, z_takeChoice, z_takeMarksL, z_takeMarks, z_takeComponentL, z_takeComponent]
theorem y_takeElement {x : Nat} {p : Nat} {σ : cS} {y : Nat} (h : y ∉ ([p + 1, p + 3, p + 5, p + 7, p + 9] : List Nat)) : (c_takeElement σ x p).1 y = σ.1 y := by
  simp only [List.mem_cons, List.not_mem_nil, or_false, not_or] at h
  unfold c_takeElement
  (repeat' split) <;> simp [cadd, cput, cemp, cI, upR, h, y_pempty, y_addSegment, y_addElement, y_addComponent, y_addCharacter, y_finish, y_takeChoice, y_takeMarksL, y_takeMarks, y_takeComponentL, y_takeComponent, y_takeElementL]
theorem z_takeElement {x : Nat} {p : Nat} {σ : cS} {u w : Nat} (h : u ≠ x) : (c_takeElement σ x p).2.1 u w = σ.2.1 u w := by
  unfold c_takeElement
  (repeat' split) <;> simp [cadd, cput, cemp, cI, upI, h, z_pempty, z_addSegment, z_addElement, z_addComponent, z_addCharacter, z_finish, z_takeChoice, z_takeMarksL, z_takeMarks, z_takeComponentL, z_takeComponent, z_takeElementL]
theorem y_takeSegmentL2 {x : Nat} {p : Nat} {fu : Nat} {v0 : Int} {σ : cS} {y : Nat} (h : y ∉ ([p + 1, p + 3, p + 5, p + 7, p + 9] : List Nat)) : (c_takeSegmentL2 x p fu v0 σ).2.1 y = σ.1 y := by
  simp only [List.mem_cons, List.not_mem_nil, or_false, not_or] at h
  induction fu generalizing σ v0 with
  | zero => rfl
  | succ fu ih =>
    unfold c_takeSegmentL2
    (repeat' split) <;> simp [ih, cadd, cput, cemp, cI, upR, h, y_pempty, y_addSegment, y_addElement, y_addComponent, y_addCharacter, y_finish, y_takeChoice, y_takeMarksL, y_takeMarks, y_takeComponentL, y_takeComponent, y_takeElementL, y_takeElement]
theorem z_takeSegmentL2 {x : Nat} {p : Nat} {fu : Nat} {v0 : Int} {σ : cS} {u w : Nat} (h : u ≠ x) : (c_takeSegmentL2 x p fu v0 σ).2.2.1 u w = σ.2.1 u w := by
  induction fu generalizing σ v0 with
  | zero => rfl
  | succ fu ih =>
    unfold c_takeSegmentL2
    (repeat' split) <;> simp [ih, cadd, cput, cemp, cI, upI, h, z_pempty, z_addSegment, z_addElement, z_addComponent, z_addCharacter, z_finish, z_takeChoice, z_takeMarksL, z_takeMarks, z_takeComponentL, z_takeComponent, z_takeElementL, z_takeElement]
theorem y_takeSegmentL1 {x : Nat} {p : Nat} {fu : Nat} {v0 v1 : Int} {σ : cS} {y : Nat} (h : y ∉ ([p + 1, p + 3, p + 5, p + 7, p + 9] : List Nat)) : (c_takeSegmentL1 x p fu v0 v1 σ).2.1 y = σ.1 y := by
  simp only [List.mem_cons, List.not_mem_nil, or_false, not_or] at h
  induction fu generalizing σ v0 v1 with
  | zero => rfl
  | succ fu ih =>
    unfold c_takeSegmentL1
    (repeat' split) <;> simp [ih, cadd, cput, cemp, cI, upR, h, y_pempty, y_addSegment, y_addElement, y_addComponent, y_addCharacter, y_finish, y_takeChoice, y_takeMarksL, y_takeMarks, y_takeComponentL, y_takeComponent, y_takeElementL, y_takeElement, y_takeSegmentL2]
theorem z_takeSegmentL1 {x : Nat} {p : Nat} {fu : Nat} {v0 v1 : Int} {σ : cS} {u w : Nat} (h : u ≠ x) : (c_takeSegmentL1 x p fu v0 v1 σ).2.2.1 u w = σ.2.1 u w := by
  induction fu generalizing σ v0 v1 with
  | zero => rfl
  | succ fu ih =>
    unfold c_takeSegmentL1
    (repeat' split) <;> simp [ih, cadd, cput, cemp, cI, upI, h, z_pempty, z_addSegment, z_addElement, z_addComponent, z_addCharacter, z_finish, z_takeChoice, z_takeMarksL, z_takeMarks, z_takeComponentL, z_takeComponent, z_takeElementL, z_takeElement, z_takeSegmentL2]
theorem y_takeSegment {x : Nat} {p : Nat} {σ : cS} {y : Nat} (h : y ∉ ([p + 1, p + 3, p + 5, p + 7, p + 9] : List Nat)) : (c_takeSegment σ x p).2.1 y = σ.1 y := by
  simp only [List.mem_cons, List.not_mem_nil, or_false, not_or] at h
  unfold c_takeSegment
  (repeat' split) <;> simp [cadd, cput, cemp, cI, upR, h, y_pempty, y_addSegment, y_addElement, y_addComponent, y_addCharacter, y_finish, y_takeChoice, y_takeMarksL, y_takeMarks, y_takeComponentL, y_takeComponent, y_takeElementL, y_takeElement, y_takeSegmentL2, y_takeSegmentL1]
theorem z_takeSegment {x : Nat} {p : Nat} {σ : cS} {u w : Nat} (h : u ≠ x) : (c_takeSegment σ x p).2.2.1 u w = σ.2.1 u w := by
  unfold c_takeSegment
  (repeat' split) <;> simp [cadd, cput, cemp, cI, upI, h, z_pempty, z_addSegment, z_addElement, z_addComponent, z_addCharacter, z_finish, z_takeChoice, z_takeMarksL, z_takeMarks, z_takeComponentL, z_takeComponent, z_takeElementL, z_takeElement, z_takeSegmentL2, z_takeSegmentL1]
theorem y_takeApartL {x : Nat} {p : Nat} {fu : Nat} {v0 : Int} {σ : cS} {y : Nat} (h : y ∉ ([p + 1, p + 3, p + 5, p + 7, p + 9] : List Nat)) : (c_takeApartL x p fu v0 σ).2.1 y = σ.1 y := by
  simp only [List.mem_cons, List.not_mem_nil, or_false, not_or] at h
  induction fu generalizing σ v0 with
  | zero => rfl
  | succ fu ih =>
    unfold c_takeApartL
    (repeat' split) <;> simp [ih, cadd, cput, cemp, cI, upR, h, y_pempty, y_addSegment, y_addElement, y_addComponent, y_addCharacter, y_finish, y_takeChoice, y_takeMarksL, y_takeMarks, y_takeComponentL, y_takeComponent, y_takeElementL, y_takeElement, y_takeSegmentL2, y_takeSegmentL1, y_takeSegment]
theorem z_takeApartL {x : Nat} {p : Nat} {fu : Nat} {v0 : Int} {σ : cS} {u w : Nat} (h : u ≠ x) : (c_takeApartL x p fu v0 σ).2.2.1 u w = σ.2.1 u w := by
  induction fu generalizing σ v0 with
  | zero => rfl
  | succ fu ih =>
    unfold c_takeApartL
    (repeat' split) <;> simp [ih, cadd, cput, cemp, cI, upI, h, z_pempty, z_addSegment, z_addElement, z_addComponent, z_addCharacter, z_finish, z_takeChoice, z_takeMarksL, z_takeMarks, z_takeComponentL, z_takeComponent, z_takeElementL, z_takeElement, z_takeSegmentL2, z_takeSegmentL1, z_takeSegment]
theorem y_takeApart {x : Nat} {p : Nat} {σ : cS} {y : Nat} (h : y ∉ ([p + 1, p + 3, p + 5, p + 7, p + 9] : List Nat)) : (c_takeApart σ x p).2.1 y = σ.1 y := by
  simp only [List.mem_cons, List.not_mem_nil, or_false, not_or] at h
  unfold c_takeApart
  (repeat' split) <;> simp [cadd, cput, cemp, cI, upR, h, y_pempty, y_addSegment, y_addElement, y_addComponent, y_addCharacter, y_finish, y_takeChoice, y_takeMarksL, y_takeMarks, y_takeComponentL, y_takeComponent, y_takeElementL, y_takeElement, y_takeSegmentL2, y_takeSegmentL1, y_takeSegment, y_takeApartL]
theorem z_takeApart {x : Nat} {p : Nat} {σ : cS} {u w : Nat} (h : u ≠ x) : (c_takeApart σ x p).2.2.1 u w = σ.2.1 u w := by
  unfold c_takeApart
  (repeat' split) <;> simp [cadd, cput, cemp, cI, upI, h, z_pempty, z_addSegment, z_addElement, z_addComponent, z_addCharacter, z_finish, z_takeChoice, z_takeMarksL, z_takeMarks, z_takeComponentL, z_takeComponent, z_takeElementL, z_takeElement, z_takeSegmentL2, z_takeSegmentL1, z_takeSegment, z_takeApartL]
