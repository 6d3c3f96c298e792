theorem y_standAtItem {t : Nat} {σ : cS} {y : Nat} (h : y ∉ ([t + 9] : List Nat)) : (c_standAtItem σ t).2.1 y = σ.1 y := by
  simp only [List.mem_cons, List.not_mem_nil, or_false, not_or] at h
  unfold c_standAtItem
  (repeat' split) <;> simp [cadd, cput, cemp, cI, upR, h]
theorem z_standAtItem {t : Nat} {σ : cS} {u w : Nat} (h : ¬ (u = t ∧ (w = 7 ∨ w = 8))) : (c_standAtItem σ t).2.2.1 u w = σ.2.1 u w := by
  have h7 : ¬ (u = t ∧ w = 7) := fun q => h ⟨q.1, Or.inl q.2⟩
  have h8 : ¬ (u = t ∧ w = 8) := fun q => h ⟨q.1, Or.inr q.2⟩
  unfold c_standAtItem
  (repeat' split) <;> simp [cadd, cput, cemp, cI, upI, h, h7, h8]
theorem y_goOnL {t : Nat} {fu : Nat} {v0 v1 : Int} {σ : cS} {y : Nat} (h : y ∉ ([t + 9] : List Nat)) : (c_goOnL t fu v0 v1 σ).1 y = σ.1 y := by
  simp only [List.mem_cons, List.not_mem_nil, or_false, not_or] at h
  induction fu generalizing σ v0 v1 with
  | zero => rfl
  | succ fu ih =>
    unfold c_goOnL
    (repeat' split) <;> simp [ih, cadd, cput, cemp, cI, upR, h, y_standAtItem]
theorem z_goOnL {t : Nat} {fu : Nat} {v0 v1 : Int} {σ : cS} {u w : Nat} (h : ¬ (u = t ∧ (w = 7 ∨ w = 8))) : (c_goOnL t fu v0 v1 σ).2.1 u w = σ.2.1 u w := by
  have h7 : ¬ (u = t ∧ w = 7) := fun q => h ⟨q.1, Or.inl q.2⟩
  have h8 : ¬ (u = t ∧ w = 8) := fun q => h ⟨q.1, Or.inr q.2⟩
  induction fu generalizing σ v0 v1 with
  | zero => rfl
  | succ fu ih =>
    unfold c_goOnL
    (repeat' split) <;> simp [ih, cadd, cput, cemp, cI, upI, h, h7, h8, z_standAtItem]
theorem y_goOn {t : Nat} {σ : cS} {y : Nat} (h : y ∉ ([t + 9] : List Nat)) : (c_goOn σ t).1 y = σ.1 y := by
  simp only [List.mem_cons, List.not_mem_nil, or_false, not_or] at h
  unfold c_goOn
  (repeat' split) <;> simp [cadd, cput, cemp, cI, upR, h, y_standAtItem, y_goOnL]
theorem z_goOn {t : Nat} {σ : cS} {u w : Nat} (h : ¬ (u = t ∧ (w = 7 ∨ w = 8))) : (c_goOn σ t).2.1 u w = σ.2.1 u w := by
  have h7 : ¬ (u = t ∧ w = 7) := fun q => h ⟨q.1, Or.inl q.2⟩
  have h8 : ¬ (u = t ∧ w = 8) := fun q => h ⟨q.1, Or.inr q.2⟩
  unfold c_goOn
  (repeat' split) <;> simp [cadd, cput, cemp, cI, upI, h, h7, h8, z_standAtItem, z_goOnL]
theorem y_takeItem {t : Nat} {σ : cS} {y : Nat} (h : y ∉ ([t + 9] : List Nat)) : (c_takeItem σ t).2.1 y = σ.1 y := by
  simp only [List.mem_cons, List.not_mem_nil, or_false, not_or] at h
  unfold c_takeItem
  (repeat' split) <;> simp [cadd, cput, cemp, cI, upR, h, y_standAtItem, y_goOnL, y_goOn]
theorem z_takeItem {t : Nat} {σ : cS} {u w : Nat} (h : ¬ (u = t ∧ (w = 7 ∨ w = 8))) : (c_takeItem σ t).2.2.1 u w = σ.2.1 u w := by
  have h7 : ¬ (u = t ∧ w = 7) := fun q => h ⟨q.1, Or.inl q.2⟩
  have h8 : ¬ (u = t ∧ w = 8) := fun q => h ⟨q.1, Or.inr q.2⟩
  unfold c_takeItem
  (repeat' split) <;> simp [cadd, cput, cemp, cI, upI, h, h7, h8, z_standAtItem, z_goOnL, z_goOn]
theorem y_tmatchL {t : Nat} {g : Int} {fu : Nat} {v0 : Int} {σ : cS} {y : Nat} (h : y ∉ ([t + 9] : List Nat)) : (c_tmatchL t g fu v0 σ).2.1 y = σ.1 y := by
  simp only [List.mem_cons, List.not_mem_nil, or_false, not_or] at h
  induction fu generalizing σ v0 with
  | zero => rfl
  | succ fu ih =>
    unfold c_tmatchL
    (repeat' split) <;> simp [ih, cadd, cput, cemp, cI, upR, h, y_standAtItem, y_goOnL, y_goOn, y_takeItem]
theorem z_tmatchL {t : Nat} {g : Int} {fu : Nat} {v0 : Int} {σ : cS} {u w : Nat} (h : ¬ (u = t ∧ (w = 7 ∨ w = 8))) : (c_tmatchL t g fu v0 σ).2.2.1 u w = σ.2.1 u w := by
  have h7 : ¬ (u = t ∧ w = 7) := fun q => h ⟨q.1, Or.inl q.2⟩
  have h8 : ¬ (u = t ∧ w = 8) := fun q => h ⟨q.1, Or.inr q.2⟩
  induction fu generalizing σ v0 with
  | zero => rfl
  | succ fu ih =>
    unfold c_tmatchL
    (repeat' split) <;> simp [ih, cadd, cput, cemp, cI, upI, h, h7, h8, z_standAtItem, z_goOnL, z_goOn, z_takeItem]
theorem y_tmatch {t : Nat} {g : Int} {σ : cS} {y : Nat} (h : y ∉ ([t + 9] : List Nat)) : (c_tmatch σ t g).2.1 y = σ.1 y := by
  simp only [List.mem_cons, List.not_mem_nil, or_false, not_or] at h
  unfold c_tmatch
  (repeat' split) <;> simp [cadd, cput, cemp, cI, upR, h, y_standAtItem, y_goOnL, y_goOn, y_takeItem, y_tmatchL]
theorem z_tmatch {t : Nat} {g : Int} {σ : cS} {u w : Nat} (h : ¬ (u = t ∧ (w = 7 ∨ w = 8))) : (c_tmatch σ t g).2.2.1 u w = σ.2.1 u w := by
  have h7 : ¬ (u = t ∧ w = 7) := fun q => h ⟨q.1, Or.inl q.2⟩
  have h8 : ¬ (u = t ∧ w = 8) := fun q => h ⟨q.1, Or.inr q.2⟩
  unfold c_tmatch
  (repeat' split) <;> simp [cadd, cput, cemp, cI, upI, h, h7, h8, z_standAtItem, z_goOnL, z_goOn, z_takeItem, z_tmatchL]
theorem y_endMatchL {t : Nat} {fu : Nat} {v0 : Int} {σ : cS} {y : Nat} (h : y ∉ ([t + 9] : List Nat)) : (c_endMatchL t fu v0 σ).2.1 y = σ.1 y := by
  simp only [List.mem_cons, List.not_mem_nil, or_false, not_or] at h
  induction fu generalizing σ v0 with
  | zero => rfl
  | succ fu ih =>
    unfold c_endMatchL
    (repeat' split) <;> simp [ih, cadd, cput, cemp, cI, upR, h, y_standAtItem, y_goOnL, y_goOn, y_takeItem, y_tmatchL, y_tmatch]
theorem z_endMatchL {t : Nat} {fu : Nat} {v0 : Int} {σ : cS} {u w : Nat} (h : ¬ (u = t ∧ (w = 7 ∨ w = 8))) : (c_endMatchL t fu v0 σ).2.2.1 u w = σ.2.1 u w := by
  have h7 : ¬ (u = t ∧ w = 7) := fun q => h ⟨q.1, Or.inl q.2⟩
  have h8 : ¬ (u = t ∧ w = 8) := fun q => h ⟨q.1, Or.inr q.2⟩
  induction fu generalizing σ v0 with
  | zero => rfl
  | succ fu ih =>
    unfold c_endMatchL
    (repeat' split) <;> simp [ih, cadd, cput, cemp, cI, upI, h, h7, h8, z_standAtItem, z_goOnL, z_goOn, z_takeItem, z_tmatchL, z_tmatch]
theorem y_endMatch {t : Nat} {σ : cS} {y : Nat} (h : y ∉ ([t + 9] : List Nat)) : (c_endMatch σ t).2.1 y = σ.1 y := by
  simp only [List.mem_cons, List.not_mem_nil, or_false, not_or] at h
  unfold c_endMatch
  (repeat' split) <;> simp [cadd, cput, cemp, cI, upR, h, y_standAtItem, y_goOnL, y_goOn, y_takeItem, y_tmatchL, y_tmatch, y_endMatchL]
theorem z_endMatch {t : Nat} {σ : cS} {u w : Nat} (h : ¬ (u = t ∧ (w = 7 ∨ w = 8))) : (c_endMatch σ t).2.2.1 u w = σ.2.1 u w := by
  have h7 : ¬ (u = t ∧ w = 7) := fun q => h ⟨q.1, Or.inl q.2⟩
  have h8 : ¬ (u = t ∧ w = 8) := fun q => h ⟨q.1, Or.inr q.2⟩
  unfold c_endMatch
  (repeat' split) <;> simp [cadd, cput, cemp, cI, upI, h, h7, h8, z_standAtItem, z_goOnL, z_goOn, z_takeItem, z_tmatchL, z_tmatch, z_endMatchL]
theorem y_startMatchL {t : Nat} {fu : Nat} {v0 : Int} {σ : cS} {y : Nat} (h : y ∉ ([t + 9] : List Nat)) : (c_startMatchL t fu v0 σ).1 y = σ.1 y := by
  simp only [List.mem_cons, List.not_mem_nil, or_false, not_or] at h
  induction fu generalizing σ v0 with
  | zero => rfl
  | succ fu ih =>
    unfold c_startMatchL
    (repeat' split) <;> simp [ih, cadd, cput, cemp, cI, upR, h, y_standAtItem, y_goOnL, y_goOn, y_takeItem, y_tmatchL, y_tmatch, y_endMatchL, y_endMatch]
theorem z_startMatchL {t : Nat} {fu : Nat} {v0 : Int} {σ : cS} {u w : Nat} (h : ¬ (u = t ∧ (w = 7 ∨ w = 8))) : (c_startMatchL t fu v0 σ).2.1 u w = σ.2.1 u w := by
  have h7 : ¬ (u = t ∧ w = 7) := fun q => h ⟨q.1, Or.inl q.2⟩
  have h8 : ¬ (u = t ∧ w = 8) := fun q => h ⟨q.1, Or.inr q.2⟩
  induction fu generalizing σ v0 with
  | zero => rfl
  | succ fu ih =>
    unfold c_startMatchL
    (repeat' split) <;> simp [ih, cadd, cput, cemp, cI, upI, h, h7, h8, z_standAtItem, z_goOnL, z_goOn, z_takeItem, z_tmatchL, z_tmatch, z_endMatchL, z_endMatch]
theorem y_startMatch {t : Nat} {σ : cS} {y : Nat} (h : y ∉ ([t + 9] : List Nat)) : (c_startMatch σ t).1 y = σ.1 y := by
  simp only [List.mem_cons, List.not_mem_nil, or_false, not_or] at h
  unfold c_startMatch
  (repeat' split) <;> simp [cadd, cput, cemp, cI, upR, h, y_standAtItem, y_goOnL, y_goOn, y_takeItem, y_tmatchL, y_tmatch, y_endMatchL, y_endMatch, y_startMatchL]
theorem z_startMatch {t : Nat} {σ : cS} {u w : Nat} (h : ¬ (u = t ∧ (w = 7 ∨ w = 8))) : (c_startMatch σ t).2.1 u w = σ.2.1 u w := by
  have h7 : ¬ (u = t ∧ w = 7) := fun q => h ⟨q.1, Or.inl q.2⟩
  have h8 : ¬ (u = t ∧ w = 8) := fun q => h ⟨q.1, Or.inr q.2⟩
  unfold c_startMatch
  (repeat' split) <;> simp [cadd, cput, cemp, cI, upI, h, h7, h8, z_standAtItem, z_goOnL, z_goOn, z_takeItem, z_tmatchL, z_tmatch, z_endMatchL, z_endMatch, z_startMatchL]
theorem y_note {e : Nat} {j : Int} {c : Int} {x : Int} {σ : cS} {y : Nat} (h : y ∉ ([e + 18, e + 20] : List Nat)) : (c_note σ e j c x).1 y = σ.1 y := by
  simp only [List.mem_cons, List.not_mem_nil, or_false, not_or] at h
  unfold c_note
  (repeat' split) <;> simp [cadd, cput, cemp, cI, upR, h, y_standAtItem, y_goOnL, y_goOn, y_takeItem, y_tmatchL, y_tmatch, y_endMatchL, y_endMatch, y_startMatchL, y_startMatch]
theorem z_note {e : Nat} {j : Int} {c : Int} {x : Int} {σ : cS} {u w : Nat}  : (c_note σ e j c x).2.1 u w = σ.2.1 u w := by
  unfold c_note
  (repeat' split) <;> simp [cadd, cput, cemp, cI, upI, z_standAtItem, z_goOnL, z_goOn, z_takeItem, z_tmatchL, z_tmatch, z_endMatchL, z_endMatch, z_startMatchL, z_startMatch]
theorem y_matchMessageL {e : Nat} {j : Int} {t : Nat} {fu : Nat} {v0 v1 : Int} {σ : cS} {y : Nat} (h : y ∉ ([t + 9, e + 18, e + 20] : List Nat)) : (c_matchMessageL e j t fu v0 v1 σ).1 y = σ.1 y := by
  simp only [List.mem_cons, List.not_mem_nil, or_false, not_or] at h
  induction fu generalizing σ v0 v1 with
  | zero => rfl
  | succ fu ih =>
    unfold c_matchMessageL
    (repeat' split) <;> simp [ih, cadd, cput, cemp, cI, upR, h, y_standAtItem, y_goOnL, y_goOn, y_takeItem, y_tmatchL, y_tmatch, y_endMatchL, y_endMatch, y_startMatchL, y_startMatch, y_note]
theorem z_matchMessageL {e : Nat} {j : Int} {t : Nat} {fu : Nat} {v0 v1 : Int} {σ : cS} {u w : Nat} (h : ¬ (u = t ∧ (w = 7 ∨ w = 8))) : (c_matchMessageL e j t fu v0 v1 σ).2.1 u w = σ.2.1 u w := by
  have h7 : ¬ (u = t ∧ w = 7) := fun q => h ⟨q.1, Or.inl q.2⟩
  have h8 : ¬ (u = t ∧ w = 8) := fun q => h ⟨q.1, Or.inr q.2⟩
  induction fu generalizing σ v0 v1 with
  | zero => rfl
  | succ fu ih =>
    unfold c_matchMessageL
    (repeat' split) <;> simp [ih, cadd, cput, cemp, cI, upI, h, h7, h8, z_standAtItem, z_goOnL, z_goOn, z_takeItem, z_tmatchL, z_tmatch, z_endMatchL, z_endMatch, z_startMatchL, z_startMatch, z_note]
theorem y_matchMessage {e : Nat} {j : Int} {t : Nat} {σ : cS} {y : Nat} (h : y ∉ ([t + 9, e + 18, e + 20] : List Nat)) : (c_matchMessage σ e j t).1 y = σ.1 y := by
  simp only [List.mem_cons, List.not_mem_nil, or_false, not_or] at h
  unfold c_matchMessage
  (repeat' split) <;> simp [cadd, cput, cemp, cI, upR, h, y_standAtItem, y_goOnL, y_goOn, y_takeItem, y_tmatchL, y_tmatch, y_endMatchL, y_endMatch, y_startMatchL, y_startMatch, y_note, y_matchMessageL]
theorem z_matchMessage {e : Nat} {j : Int} {t : Nat} {σ : cS} {u w : Nat} (h : ¬ (u = t ∧ (w = 7 ∨ w = 8))) : (c_matchMessage σ e j t).2.1 u w = σ.2.1 u w := by
  have h7 : ¬ (u = t ∧ w = 7) := fun q => h ⟨q.1, Or.inl q.2⟩
  have h8 : ¬ (u = t ∧ w = 8) := fun q => h ⟨q.1, Or.inr q.2⟩
  unfold c_matchMessage
  (repeat' split) <;> simp [cadd, cput, cemp, cI, upI, h, h7, h8, z_standAtItem, z_goOnL, z_goOn, z_takeItem, z_tmatchL, z_tmatch, z_endMatchL, z_endMatch, z_startMatchL, z_startMatch, z_note, z_matchMessageL]
theorem y_judgeMessage {e : Nat} {j : Int} {t : Nat} {σ : cS} {y : Nat} (h : y ∉ ([t + 9, e + 18, e + 20] : List Nat)) : (c_judgeMessage σ e j t).1 y = σ.1 y := by
  simp only [List.mem_cons, List.not_mem_nil, or_false, not_or] at h
  unfold c_judgeMessage
  (repeat' split) <;> simp [cadd, cput, cemp, cI, upR, h, y_standAtItem, y_goOnL, y_goOn, y_takeItem, y_tmatchL, y_tmatch, y_endMatchL, y_endMatch, y_startMatchL, y_startMatch, y_note, y_matchMessageL, y_matchMessage]
theorem z_judgeMessage {e : Nat} {j : Int} {t : Nat} {σ : cS} {u w : Nat} (h : ¬ (u = t ∧ (w = 7 ∨ w = 8))) : (c_judgeMessage σ e j t).2.1 u w = σ.2.1 u w := by
  have h7 : ¬ (u = t ∧ w = 7) := fun q => h ⟨q.1, Or.inl q.2⟩
  have h8 : ¬ (u = t ∧ w = 8) := fun q => h ⟨q.1, Or.inr q.2⟩
  unfold c_judgeMessage
  (repeat' split) <;> simp [cadd, cput, cemp, cI, upI, h, h7, h8, z_standAtItem, z_goOnL, z_goOn, z_takeItem, z_tmatchL, z_tmatch, z_endMatchL, z_endMatch, z_startMatchL, z_startMatch, z_note, z_matchMessageL, z_matchMessage]
theorem y_judgeMessageN {e : Nat} {j : Int} {σ : cS} {y : Nat} (h : y ∉ ([e + 18, e + 20] : List Nat)) : (c_judgeMessageN σ e j).1 y = σ.1 y := by
  simp only [List.mem_cons, List.not_mem_nil, or_false, not_or] at h
  unfold c_judgeMessageN
  (repeat' split) <;> simp [cadd, cput, cemp, cI, upR, h, y_standAtItem, y_goOnL, y_goOn, y_takeItem, y_tmatchL, y_tmatch, y_endMatchL, y_endMatch, y_startMatchL, y_startMatch, y_note, y_matchMessageL, y_matchMessage, y_judgeMessage]
theorem z_judgeMessageN {e : Nat} {j : Int} {σ : cS} {u w : Nat}  : (c_judgeMessageN σ e j).2.1 u w = σ.2.1 u w := by
  unfold c_judgeMessageN
  (repeat' split) <;> simp [cadd, cput, cemp, cI, upI, z_standAtItem, z_goOnL, z_goOn, z_takeItem, z_tmatchL, z_tmatch, z_endMatchL, z_endMatch, z_startMatchL, z_startMatch, z_note, z_matchMessageL, z_matchMessage, z_judgeMessage]
theorem y_judgeEndsL {e : Nat} {fu : Nat} {v0 : Int} {σ : cS} {y : Nat} (h : y ∉ ([e + 28] : List Nat)) : (c_judgeEndsL e fu v0 σ).1 y = σ.1 y := by
  simp only [List.mem_cons, List.not_mem_nil, or_false, not_or] at h
  induction fu generalizing σ v0 with
  | zero => rfl
  | succ fu ih =>
    unfold c_judgeEndsL
    (repeat' split) <;> simp [ih, cadd, cput, cemp, cI, upR, h, y_standAtItem, y_goOnL, y_goOn, y_takeItem, y_tmatchL, y_tmatch, y_endMatchL, y_endMatch, y_startMatchL, y_startMatch, y_note, y_matchMessageL, y_matchMessage, y_judgeMessage, y_judgeMessageN]
theorem z_judgeEndsL {e : Nat} {fu : Nat} {v0 : Int} {σ : cS} {u w : Nat} (h : ¬ (u = e ∧ w = 10)) : (c_judgeEndsL e fu v0 σ).2.1 u w = σ.2.1 u w := by
  induction fu generalizing σ v0 with
  | zero => rfl
  | succ fu ih =>
    unfold c_judgeEndsL
    (repeat' split) <;> simp [ih, cadd, cput, cemp, cI, upI, h, z_standAtItem, z_goOnL, z_goOn, z_takeItem, z_tmatchL, z_tmatch, z_endMatchL, z_endMatch, z_startMatchL, z_startMatch, z_note, z_matchMessageL, z_matchMessage, z_judgeMessage, z_judgeMessageN]
theorem y_judgeEnds {e : Nat} {σ : cS} {y : Nat} (h : y ∉ ([e + 28] : List Nat)) : (c_judgeEnds σ e).1 y = σ.1 y := by
  simp only [List.mem_cons, List.not_mem_nil, or_false, not_or] at h
  unfold c_judgeEnds
  (repeat' split) <;> simp [cadd, cput, cemp, cI, upR, h, y_standAtItem, y_goOnL, y_goOn, y_takeItem, y_tmatchL, y_tmatch, y_endMatchL, y_endMatch, y_startMatchL, y_startMatch, y_note, y_matchMessageL, y_matchMessage, y_judgeMessage, y_judgeMessageN, y_judgeEndsL]
theorem z_judgeEnds {e : Nat} {σ : cS} {u w : Nat} (h : ¬ (u = e ∧ w = 10)) : (c_judgeEnds σ e).2.1 u w = σ.2.1 u w := by
  unfold c_judgeEnds
  (repeat' split) <;> simp [cadd, cput, cemp, cI, upI, h, z_standAtItem, z_goOnL, z_goOn, z_takeItem, z_tmatchL, z_tmatch, z_endMatchL, z_endMatch, z_startMatchL, z_startMatch, z_note, z_matchMessageL, z_matchMessage, z_judgeMessage, z_judgeMessageN, z_judgeEndsL]
