theorem k_pempty {σ : cS} {p : Nat} : (c_pempty σ p).2.2 = σ.2.2 := by
  unfold c_pempty
  (repeat' split) <;> simp [cadd, cput, cemp, cI]
theorem k_addSegment {σ : cS} {p : Nat} {v : Int} : (c_addSegment σ p v).2.2 = σ.2.2 := by
  unfold c_addSegment
  (repeat' split) <;> simp [cadd, cput, cemp, cI, k_pempty]
theorem k_addElement {σ : cS} {p : Nat} : (c_addElement σ p).2.2 = σ.2.2 := by
  unfold c_addElement
  (repeat' split) <;> simp [cadd, cput, cemp, cI, k_pempty, k_addSegment]
theorem k_addComponent {σ : cS} {p : Nat} : (c_addComponent σ p).2.2 = σ.2.2 := by
  unfold c_addComponent
  (repeat' split) <;> simp [cadd, cput, cemp, cI, k_pempty, k_addSegment, k_addElement]
theorem k_addCharacter {σ : cS} {p : Nat} {v : Int} : (c_addCharacter σ p v).2.2 = σ.2.2 := by
  unfold c_addCharacter
  (repeat' split) <;> simp [cadd, cput, cemp, cI, k_pempty, k_addSegment, k_addElement, k_addComponent]
theorem k_finish {σ : cS} {p : Nat} : (c_finish σ p).2.2 = σ.2.2 := by
  unfold c_finish
  (repeat' split) <;> simp [cadd, cput, cemp, cI, k_pempty, k_addSegment, k_addElement, k_addComponent, k_addCharacter]
theorem k_tadd {σ : cS} {t : Nat} {g : Int} {u : Int} {m : Int} : (c_tadd σ t g u m).2.2.2 = σ.2.2 := by
  unfold c_tadd
  (repeat' split) <;> simp [cadd, cput, cemp, cI, k_pempty, k_addSegment, k_addElement, k_addComponent, k_addCharacter, k_finish]
theorem k_addGroup {σ : cS} {t : Nat} {u : Int} {m : Int} : (c_addGroup σ t u m).2.2.2 = σ.2.2 := by
  unfold c_addGroup
  (repeat' split) <;> simp [cadd, cput, cemp, cI, k_pempty, k_addSegment, k_addElement, k_addComponent, k_addCharacter, k_finish, k_tadd]
theorem k_closeList {σ : cS} {t : Nat} : (c_closeList σ t).2.2.2 = σ.2.2 := by
  unfold c_closeList
  (repeat' split) <;> simp [cadd, cput, cemp, cI, k_pempty, k_addSegment, k_addElement, k_addComponent, k_addCharacter, k_finish, k_tadd, k_addGroup]
theorem k_tempty {σ : cS} {t : Nat} : (c_tempty σ t).2.2 = σ.2.2 := by
  unfold c_tempty
  (repeat' split) <;> simp [cadd, cput, cemp, cI, k_pempty, k_addSegment, k_addElement, k_addComponent, k_addCharacter, k_finish, k_tadd, k_addGroup, k_closeList]
theorem k_standAtItem {σ : cS} {t : Nat} : (c_standAtItem σ t).2.2.2 = σ.2.2 := by
  unfold c_standAtItem
  (repeat' split) <;> simp [cadd, cput, cemp, cI, k_pempty, k_addSegment, k_addElement, k_addComponent, k_addCharacter, k_finish, k_tadd, k_addGroup, k_closeList, k_tempty]
theorem k_goOnL {t : Nat} (fu : Nat) (v0 v1 : Int) (σ : cS) : (c_goOnL t fu v0 v1 σ).2.2 = σ.2.2 := by
  induction fu generalizing σ v0 v1 with
  | zero => rfl
  | succ fu ih =>
    unfold c_goOnL
    (repeat' split) <;> simp [ih, cadd, cput, cemp, cI, k_pempty, k_addSegment, k_addElement, k_addComponent, k_addCharacter, k_finish, k_tadd, k_addGroup, k_closeList, k_tempty, k_standAtItem]
theorem k_goOn {σ : cS} {t : Nat} : (c_goOn σ t).2.2 = σ.2.2 := by
  unfold c_goOn
  (repeat' split) <;> simp [cadd, cput, cemp, cI, k_pempty, k_addSegment, k_addElement, k_addComponent, k_addCharacter, k_finish, k_tadd, k_addGroup, k_closeList, k_tempty, k_standAtItem, k_goOnL]
theorem k_takeItem {σ : cS} {t : Nat} : (c_takeItem σ t).2.2.2 = σ.2.2 := by
  unfold c_takeItem
  (repeat' split) <;> simp [cadd, cput, cemp, cI, k_pempty, k_addSegment, k_addElement, k_addComponent, k_addCharacter, k_finish, k_tadd, k_addGroup, k_closeList, k_tempty, k_standAtItem, k_goOnL, k_goOn]
theorem k_tmatchL {t : Nat} {g : Int} (fu : Nat) (v0 : Int) (σ : cS) : (c_tmatchL t g fu v0 σ).2.2.2 = σ.2.2 := by
  induction fu generalizing σ v0 with
  | zero => rfl
  | succ fu ih =>
    unfold c_tmatchL
    (repeat' split) <;> simp [ih, cadd, cput, cemp, cI, k_pempty, k_addSegment, k_addElement, k_addComponent, k_addCharacter, k_finish, k_tadd, k_addGroup, k_closeList, k_tempty, k_standAtItem, k_goOnL, k_goOn, k_takeItem]
theorem k_tmatch {σ : cS} {t : Nat} {g : Int} : (c_tmatch σ t g).2.2.2 = σ.2.2 := by
  unfold c_tmatch
  (repeat' split) <;> simp [cadd, cput, cemp, cI, k_pempty, k_addSegment, k_addElement, k_addComponent, k_addCharacter, k_finish, k_tadd, k_addGroup, k_closeList, k_tempty, k_standAtItem, k_goOnL, k_goOn, k_takeItem, k_tmatchL]
theorem k_endMatchL {t : Nat} (fu : Nat) (v0 : Int) (σ : cS) : (c_endMatchL t fu v0 σ).2.2.2 = σ.2.2 := by
  induction fu generalizing σ v0 with
  | zero => rfl
  | succ fu ih =>
    unfold c_endMatchL
    (repeat' split) <;> simp [ih, cadd, cput, cemp, cI, k_pempty, k_addSegment, k_addElement, k_addComponent, k_addCharacter, k_finish, k_tadd, k_addGroup, k_closeList, k_tempty, k_standAtItem, k_goOnL, k_goOn, k_takeItem, k_tmatchL, k_tmatch]
theorem k_endMatch {σ : cS} {t : Nat} : (c_endMatch σ t).2.2.2 = σ.2.2 := by
  unfold c_endMatch
  (repeat' split) <;> simp [cadd, cput, cemp, cI, k_pempty, k_addSegment, k_addElement, k_addComponent, k_addCharacter, k_finish, k_tadd, k_addGroup, k_closeList, k_tempty, k_standAtItem, k_goOnL, k_goOn, k_takeItem, k_tmatchL, k_tmatch, k_endMatchL]
theorem k_startMatchL {t : Nat} (fu : Nat) (v0 : Int) (σ : cS) : (c_startMatchL t fu v0 σ).2.2 = σ.2.2 := by
  induction fu generalizing σ v0 with
  | zero => rfl
  | succ fu ih =>
    unfold c_startMatchL
    (repeat' split) <;> simp [ih, cadd, cput, cemp, cI, k_pempty, k_addSegment, k_addElement, k_addComponent, k_addCharacter, k_finish, k_tadd, k_addGroup, k_closeList, k_tempty, k_standAtItem, k_goOnL, k_goOn, k_takeItem, k_tmatchL, k_tmatch, k_endMatchL, k_endMatch]
theorem k_startMatch {σ : cS} {t : Nat} : (c_startMatch σ t).2.2 = σ.2.2 := by
  unfold c_startMatch
  (repeat' split) <;> simp [cadd, cput, cemp, cI, k_pempty, k_addSegment, k_addElement, k_addComponent, k_addCharacter, k_finish, k_tadd, k_addGroup, k_closeList, k_tempty, k_standAtItem, k_goOnL, k_goOn, k_takeItem, k_tmatchL, k_tmatch, k_endMatchL, k_endMatch, k_startMatchL]
theorem k_note {σ : cS} {e : Nat} {j : Int} {c : Int} {x : Int} : (c_note σ e j c x).2.2 = σ.2.2 := by
  unfold c_note
  (repeat' split) <;> simp [cadd, cput, cemp, cI, k_pempty, k_addSegment, k_addElement, k_addComponent, k_addCharacter, k_finish, k_tadd, k_addGroup, k_closeList, k_tempty, k_standAtItem, k_goOnL, k_goOn, k_takeItem, k_tmatchL, k_tmatch, k_endMatchL, k_endMatch, k_startMatchL, k_startMatch]
theorem k_eempty {σ : cS} {e : Nat} : (c_eempty σ e).2.2 = σ.2.2 := by
  unfold c_eempty
  (repeat' split) <;> simp [cadd, cput, cemp, cI, k_pempty, k_addSegment, k_addElement, k_addComponent, k_addCharacter, k_finish, k_tadd, k_addGroup, k_closeList, k_tempty, k_standAtItem, k_goOnL, k_goOn, k_takeItem, k_tmatchL, k_tmatch, k_endMatchL, k_endMatch, k_startMatchL, k_startMatch, k_note]
theorem k_matchMessageL {e : Nat} {j : Int} {t : Nat} (fu : Nat) (v0 v1 : Int) (σ : cS) : (c_matchMessageL e j t fu v0 v1 σ).2.2 = σ.2.2 := by
  induction fu generalizing σ v0 v1 with
  | zero => rfl
  | succ fu ih =>
    unfold c_matchMessageL
    (repeat' split) <;> simp [ih, cadd, cput, cemp, cI, k_pempty, k_addSegment, k_addElement, k_addComponent, k_addCharacter, k_finish, k_tadd, k_addGroup, k_closeList, k_tempty, k_standAtItem, k_goOnL, k_goOn, k_takeItem, k_tmatchL, k_tmatch, k_endMatchL, k_endMatch, k_startMatchL, k_startMatch, k_note, k_eempty]
theorem k_matchMessage {σ : cS} {e : Nat} {j : Int} {t : Nat} : (c_matchMessage σ e j t).2.2 = σ.2.2 := by
  unfold c_matchMessage
  (repeat' split) <;> simp [cadd, cput, cemp, cI, k_pempty, k_addSegment, k_addElement, k_addComponent, k_addCharacter, k_finish, k_tadd, k_addGroup, k_closeList, k_tempty, k_standAtItem, k_goOnL, k_goOn, k_takeItem, k_tmatchL, k_tmatch, k_endMatchL, k_endMatch, k_startMatchL, k_startMatch, k_note, k_eempty, k_matchMessageL]
theorem k_judgeMessage {σ : cS} {e : Nat} {j : Int} {t : Nat} : (c_judgeMessage σ e j t).2.2 = σ.2.2 := by
  unfold c_judgeMessage
  (repeat' split) <;> simp [cadd, cput, cemp, cI, k_pempty, k_addSegment, k_addElement, k_addComponent, k_addCharacter, k_finish, k_tadd, k_addGroup, k_closeList, k_tempty, k_standAtItem, k_goOnL, k_goOn, k_takeItem, k_tmatchL, k_tmatch, k_endMatchL, k_endMatch, k_startMatchL, k_startMatch, k_note, k_eempty, k_matchMessageL, k_matchMessage]
theorem k_judgeMessageN {σ : cS} {e : Nat} {j : Int} : (c_judgeMessageN σ e j).2.2 = σ.2.2 := by
  unfold c_judgeMessageN
  (repeat' split) <;> simp [cadd, cput, cemp, cI, k_pempty, k_addSegment, k_addElement, k_addComponent, k_addCharacter, k_finish, k_tadd, k_addGroup, k_closeList, k_tempty, k_standAtItem, k_goOnL, k_goOn, k_takeItem, k_tmatchL, k_tmatch, k_endMatchL, k_endMatch, k_startMatchL, k_startMatch, k_note, k_eempty, k_matchMessageL, k_matchMessage, k_judgeMessage]
theorem k_judgeEndsL {e : Nat} (fu : Nat) (v0 : Int) (σ : cS) : (c_judgeEndsL e fu v0 σ).2.2 = σ.2.2 := by
  induction fu generalizing σ v0 with
  | zero => rfl
  | succ fu ih =>
    unfold c_judgeEndsL
    (repeat' split) <;> simp [ih, cadd, cput, cemp, cI, k_pempty, k_addSegment, k_addElement, k_addComponent, k_addCharacter, k_finish, k_tadd, k_addGroup, k_closeList, k_tempty, k_standAtItem, k_goOnL, k_goOn, k_takeItem, k_tmatchL, k_tmatch, k_endMatchL, k_endMatch, k_startMatchL, k_startMatch, k_note, k_eempty, k_matchMessageL, k_matchMessage, k_judgeMessage, k_judgeMessageN]
theorem k_judgeEnds {σ : cS} {e : Nat} : (c_judgeEnds σ e).2.2 = σ.2.2 := by
  unfold c_judgeEnds
  (repeat' split) <;> simp [cadd, cput, cemp, cI, k_pempty, k_addSegment, k_addElement, k_addComponent, k_addCharacter, k_finish, k_tadd, k_addGroup, k_closeList, k_tempty, k_standAtItem, k_goOnL, k_goOn, k_takeItem, k_tmatchL, k_tmatch, k_endMatchL, k_endMatch, k_startMatchL, k_startMatch, k_note, k_eempty, k_matchMessageL, k_matchMessage, k_judgeMessage, k_judgeMessageN, k_judgeEndsL]
theorem k_takeMessageL {e : Nat} {g : Int} (fu : Nat) (v0 v1 : Int) (σ : cS) : (c_takeMessageL e g fu v0 v1 σ).2.2.2 = σ.2.2 := by
  induction fu generalizing σ v0 v1 with
  | zero => rfl
  | succ fu ih =>
    unfold c_takeMessageL
    (repeat' split) <;> simp [ih, cadd, cput, cemp, cI, k_pempty, k_addSegment, k_addElement, k_addComponent, k_addCharacter, k_finish, k_tadd, k_addGroup, k_closeList, k_tempty, k_standAtItem, k_goOnL, k_goOn, k_takeItem, k_tmatchL, k_tmatch, k_endMatchL, k_endMatch, k_startMatchL, k_startMatch, k_note, k_eempty, k_matchMessageL, k_matchMessage, k_judgeMessage, k_judgeMessageN, k_judgeEndsL, k_judgeEnds]
theorem k_takeMessage {σ : cS} {e : Nat} {g : Int} : (c_takeMessage σ e g).2.2.2 = σ.2.2 := by
  unfold c_takeMessage
  (repeat' split) <;> simp [cadd, cput, cemp, cI, k_pempty, k_addSegment, k_addElement, k_addComponent, k_addCharacter, k_finish, k_tadd, k_addGroup, k_closeList, k_tempty, k_standAtItem, k_goOnL, k_goOn, k_takeItem, k_tmatchL, k_tmatch, k_endMatchL, k_endMatch, k_startMatchL, k_startMatch, k_note, k_eempty, k_matchMessageL, k_matchMessage, k_judgeMessage, k_judgeMessageN, k_judgeEndsL, k_judgeEnds, k_takeMessageL]
theorem k_takeGroupL {e : Nat} (fu : Nat) (v0 v1 v2 : Int) (σ : cS) : (c_takeGroupL e fu v0 v1 v2 σ).2.2.2 = σ.2.2 := by
  induction fu generalizing σ v0 v1 v2 with
  | zero => rfl
  | succ fu ih =>
    unfold c_takeGroupL
    (repeat' split) <;> simp [ih, cadd, cput, cemp, cI, k_pempty, k_addSegment, k_addElement, k_addComponent, k_addCharacter, k_finish, k_tadd, k_addGroup, k_closeList, k_tempty, k_standAtItem, k_goOnL, k_goOn, k_takeItem, k_tmatchL, k_tmatch, k_endMatchL, k_endMatch, k_startMatchL, k_startMatch, k_note, k_eempty, k_matchMessageL, k_matchMessage, k_judgeMessage, k_judgeMessageN, k_judgeEndsL, k_judgeEnds, k_takeMessageL, k_takeMessage]
theorem k_takeGroup {σ : cS} {e : Nat} : (c_takeGroup σ e).2.2.2 = σ.2.2 := by
  unfold c_takeGroup
  (repeat' split) <;> simp [cadd, cput, cemp, cI, k_pempty, k_addSegment, k_addElement, k_addComponent, k_addCharacter, k_finish, k_tadd, k_addGroup, k_closeList, k_tempty, k_standAtItem, k_goOnL, k_goOn, k_takeItem, k_tmatchL, k_tmatch, k_endMatchL, k_endMatch, k_startMatchL, k_startMatch, k_note, k_eempty, k_matchMessageL, k_matchMessage, k_judgeMessage, k_judgeMessageN, k_judgeEndsL, k_judgeEnds, k_takeMessageL, k_takeMessage, k_takeGroupL]
theorem k_fitL {e : Nat} (fu : Nat) (v0 v1 v2 : Int) (σ : cS) : (c_fitL e fu v0 v1 v2 σ).2.2.2 = σ.2.2 := by
  induction fu generalizing σ v0 v1 v2 with
  | zero => rfl
  | succ fu ih =>
    unfold c_fitL
    (repeat' split) <;> simp [ih, cadd, cput, cemp, cI, k_pempty, k_addSegment, k_addElement, k_addComponent, k_addCharacter, k_finish, k_tadd, k_addGroup, k_closeList, k_tempty, k_standAtItem, k_goOnL, k_goOn, k_takeItem, k_tmatchL, k_tmatch, k_endMatchL, k_endMatch, k_startMatchL, k_startMatch, k_note, k_eempty, k_matchMessageL, k_matchMessage, k_judgeMessage, k_judgeMessageN, k_judgeEndsL, k_judgeEnds, k_takeMessageL, k_takeMessage, k_takeGroupL, k_takeGroup]
theorem k_fit {σ : cS} {e : Nat} : (c_fit σ e).2.2.2 = σ.2.2 := by
  unfold c_fit
  (repeat' split) <;> simp [cadd, cput, cemp, cI, k_pempty, k_addSegment, k_addElement, k_addComponent, k_addCharacter, k_finish, k_tadd, k_addGroup, k_closeList, k_tempty, k_standAtItem, k_goOnL, k_goOn, k_takeItem, k_tmatchL, k_tmatch, k_endMatchL, k_endMatch, k_startMatchL, k_startMatch, k_note, k_eempty, k_matchMessageL, k_matchMessage, k_judgeMessage, k_judgeMessageN, k_judgeEndsL, k_judgeEnds, k_takeMessageL, k_takeMessage, k_takeGroupL, k_takeGroup, k_fitL]
theorem k_xadd {σ : cS} {x : Nat} {v : Int} : (c_xadd σ x v).2.2 = σ.2.2 := by
  unfold c_xadd
  (repeat' split) <;> simp [cadd, cput, cemp, cI, k_pempty, k_addSegment, k_addElement, k_addComponent, k_addCharacter, k_finish, k_tadd, k_addGroup, k_closeList, k_tempty, k_standAtItem, k_goOnL, k_goOn, k_takeItem, k_tmatchL, k_tmatch, k_endMatchL, k_endMatch, k_startMatchL, k_startMatch, k_note, k_eempty, k_matchMessageL, k_matchMessage, k_judgeMessage, k_judgeMessageN, k_judgeEndsL, k_judgeEnds, k_takeMessageL, k_takeMessage, k_takeGroupL, k_takeGroup, k_fitL, k_fit]
theorem k_xempty {σ : cS} {x : Nat} : (c_xempty σ x).2.2 = σ.2.2 := by
  unfold c_xempty
  (repeat' split) <;> simp [cadd, cput, cemp, cI, k_pempty, k_addSegment, k_addElement, k_addComponent, k_addCharacter, k_finish, k_tadd, k_addGroup, k_closeList, k_tempty, k_standAtItem, k_goOnL, k_goOn, k_takeItem, k_tmatchL, k_tmatch, k_endMatchL, k_endMatch, k_startMatchL, k_startMatch, k_note, k_eempty, k_matchMessageL, k_matchMessage, k_judgeMessage, k_judgeMessageN, k_judgeEndsL, k_judgeEnds, k_takeMessageL, k_takeMessage, k_takeGroupL, k_takeGroup, k_fitL, k_fit, k_xadd]
theorem k_takeChoice {σ : cS} {x : Nat} {c : Int} : (c_takeChoice σ x c).2.2.2 = σ.2.2 := by
  unfold c_takeChoice
  (repeat' split) <;> simp [cadd, cput, cemp, cI, k_pempty, k_addSegment, k_addElement, k_addComponent, k_addCharacter, k_finish, k_tadd, k_addGroup, k_closeList, k_tempty, k_standAtItem, k_goOnL, k_goOn, k_takeItem, k_tmatchL, k_tmatch, k_endMatchL, k_endMatch, k_startMatchL, k_startMatch, k_note, k_eempty, k_matchMessageL, k_matchMessage, k_judgeMessage, k_judgeMessageN, k_judgeEndsL, k_judgeEnds, k_takeMessageL, k_takeMessage, k_takeGroupL, k_takeGroup, k_fitL, k_fit, k_xadd, k_xempty]
theorem k_takeMarksL {x : Nat} (fu : Nat) (σ : cS) : (c_takeMarksL x fu  σ).2.2.2 = σ.2.2 := by
  induction fu generalizing σ  with
  | zero => rfl
  | succ fu ih =>
    unfold c_takeMarksL
    (repeat' split) <;> simp [ih, cadd, cput, cemp, cI, k_pempty, k_addSegment, k_addElement, k_addComponent, k_addCharacter, k_finish, k_tadd, k_addGroup, k_closeList, k_tempty, k_standAtItem, k_goOnL, k_goOn, k_takeItem, k_tmatchL, k_tmatch, k_endMatchL, k_endMatch, k_startMatchL, k_startMatch, k_note, k_eempty, k_matchMessageL, k_matchMessage, k_judgeMessage, k_judgeMessageN, k_judgeEndsL, k_judgeEnds, k_takeMessageL, k_takeMessage, k_takeGroupL, k_takeGroup, k_fitL, k_fit, k_xadd, k_xempty, k_takeChoice]
theorem k_takeMarks {σ : cS} {x : Nat} : (c_takeMarks σ x).2.2.2 = σ.2.2 := by
  unfold c_takeMarks
  (repeat' split) <;> simp [cadd, cput, cemp, cI, k_pempty, k_addSegment, k_addElement, k_addComponent, k_addCharacter, k_finish, k_tadd, k_addGroup, k_closeList, k_tempty, k_standAtItem, k_goOnL, k_goOn, k_takeItem, k_tmatchL, k_tmatch, k_endMatchL, k_endMatch, k_startMatchL, k_startMatch, k_note, k_eempty, k_matchMessageL, k_matchMessage, k_judgeMessage, k_judgeMessageN, k_judgeEndsL, k_judgeEnds, k_takeMessageL, k_takeMessage, k_takeGroupL, k_takeGroup, k_fitL, k_fit, k_xadd, k_xempty, k_takeChoice, k_takeMarksL]
theorem k_takeComponentL {x : Nat} {p : Nat} (fu : Nat) (σ : cS) : (c_takeComponentL x p fu  σ).2.2 = σ.2.2 := by
  induction fu generalizing σ  with
  | zero => rfl
  | succ fu ih =>
    unfold c_takeComponentL
    (repeat' split) <;> simp [ih, cadd, cput, cemp, cI, k_pempty, k_addSegment, k_addElement, k_addComponent, k_addCharacter, k_finish, k_tadd, k_addGroup, k_closeList, k_tempty, k_standAtItem, k_goOnL, k_goOn, k_takeItem, k_tmatchL, k_tmatch, k_endMatchL, k_endMatch, k_startMatchL, k_startMatch, k_note, k_eempty, k_matchMessageL, k_matchMessage, k_judgeMessage, k_judgeMessageN, k_judgeEndsL, k_judgeEnds, k_takeMessageL, k_takeMessage, k_takeGroupL, k_takeGroup, k_fitL, k_fit, k_xadd, k_xempty, k_takeChoice, k_takeMarksL, k_takeMarks]
theorem k_takeComponent {σ : cS} {x : Nat} {p : Nat} : (c_takeComponent σ x p).2.2 = σ.2.2 := by
  unfold c_takeComponent
  (repeat' split) <;> simp [cadd, cput, cemp, cI, k_pempty, k_addSegment, k_addElement, k_addComponent, k_addCharacter, k_finish, k_tadd, k_addGroup, k_closeList, k_tempty, k_standAtItem, k_goOnL, k_goOn, k_takeItem, k_tmatchL, k_tmatch, k_endMatchL, k_endMatch, k_startMatchL, k_startMatch, k_note, k_eempty, k_matchMessageL, k_matchMessage, k_judgeMessage, k_judgeMessageN, k_judgeEndsL, k_judgeEnds, k_takeMessageL, k_takeMessage, k_takeGroupL, k_takeGroup, k_fitL, k_fit, k_xadd, k_xempty, k_takeChoice, k_takeMarksL, k_takeMarks, k_takeComponentL]
theorem k_takeElementL {x : Nat} {p : Nat} (fu : Nat) (v0 : Int) (σ : cS) : (c_takeElementL x p fu v0 σ).2.2 = σ.2.2 := by
  induction fu generalizing σ v0 with
  | zero => rfl
  | succ fu ih =>
    unfold c_takeElementL
    (repeat' split) <;> simp [ih, cadd, cput, cemp, cI, k_pempty, k_addSegment, k_addElement, k_addComponent, k_addCharacter, k_finish, k_tadd, k_addGroup, k_closeList, k_tempty, k_standAtItem, k_goOnL, k_goOn, k_takeItem, k_tmatchL, k_tmatch, k_endMatchL, k_endMatch, k_startMatchL, k_startMatch, k_note, k_eempty, k_matchMessageL, k_matchMessage, k_judgeMessage, k_judgeMessageN, k_judgeEndsL, k_judgeEnds, k_takeMessageL, k_takeMessage, k_takeGroupL, k_takeGroup, k_fitL, k_fit, k_xadd, k_xempty, k_takeChoice, k_takeMarksL, k_takeMarks, k_takeComponentL, k_takeComponent]
theorem k_takeElement {σ : cS} {x : Nat} {p : Nat} : (c_takeElement σ x p).2.2 = σ.2.2 := by
  unfold c_takeElement
  (repeat' split) <;> simp [cadd, cput, cemp, cI, k_pempty, k_addSegment, k_addElement, k_addComponent, k_addCharacter, k_finish, k_tadd, k_addGroup, k_closeList, k_tempty, k_standAtItem, k_goOnL, k_goOn, k_takeItem, k_tmatchL, k_tmatch, k_endMatchL, k_endMatch, k_startMatchL, k_startMatch, k_note, k_eempty, k_matchMessageL, k_matchMessage, k_judgeMessage, k_judgeMessageN, k_judgeEndsL, k_judgeEnds, k_takeMessageL, k_takeMessage, k_takeGroupL, k_takeGroup, k_fitL, k_fit, k_xadd, k_xempty, k_takeChoice, k_takeMarksL, k_takeMarks, k_takeComponentL, k_takeComponent, k_takeElementL]
theorem k_takeSegmentL2 {x : Nat} {p : Nat} (fu : Nat) (v0 : Int) (σ : cS) : (c_takeSegmentL2 x p fu v0 σ).2.2.2 = σ.2.2 := by
  induction fu generalizing σ v0 with
  | zero => rfl
  | succ fu ih =>
    unfold c_takeSegmentL2
    (repeat' split) <;> simp [ih, cadd, cput, cemp, cI, k_pempty, k_addSegment, k_addElement, k_addComponent, k_addCharacter, k_finish, k_tadd, k_addGroup, k_closeList, k_tempty, k_standAtItem, k_goOnL, k_goOn, k_takeItem, k_tmatchL, k_tmatch, k_endMatchL, k_endMatch, k_startMatchL, k_startMatch, k_note, k_eempty, k_matchMessageL, k_matchMessage, k_judgeMessage, k_judgeMessageN, k_judgeEndsL, k_judgeEnds, k_takeMessageL, k_takeMessage, k_takeGroupL, k_takeGroup, k_fitL, k_fit, k_xadd, k_xempty, k_takeChoice, k_takeMarksL, k_takeMarks, k_takeComponentL, k_takeComponent, k_takeElementL, k_takeElement]
theorem k_takeSegmentL1 {x : Nat} {p : Nat} (fu : Nat) (v0 v1 : Int) (σ : cS) : (c_takeSegmentL1 x p fu v0 v1 σ).2.2.2 = σ.2.2 := by
  induction fu generalizing σ v0 v1 with
  | zero => rfl
  | succ fu ih =>
    unfold c_takeSegmentL1
    (repeat' split) <;> simp [ih, cadd, cput, cemp, cI, k_pempty, k_addSegment, k_addElement, k_addComponent, k_addCharacter, k_finish, k_tadd, k_addGroup, k_closeList, k_tempty, k_standAtItem, k_goOnL, k_goOn, k_takeItem, k_tmatchL, k_tmatch, k_endMatchL, k_endMatch, k_startMatchL, k_startMatch, k_note, k_eempty, k_matchMessageL, k_matchMessage, k_judgeMessage, k_judgeMessageN, k_judgeEndsL, k_judgeEnds, k_takeMessageL, k_takeMessage, k_takeGroupL, k_takeGroup, k_fitL, k_fit, k_xadd, k_xempty, k_takeChoice, k_takeMarksL, k_takeMarks, k_takeComponentL, k_takeComponent, k_takeElementL, k_takeElement, k_takeSegmentL2]
theorem k_takeSegment {σ : cS} {x : Nat} {p : Nat} : (c_takeSegment σ x p).2.2.2 = σ.2.2 := by
  unfold c_takeSegment
  (repeat' split) <;> simp [cadd, cput, cemp, cI, k_pempty, k_addSegment, k_addElement, k_addComponent, k_addCharacter, k_finish, k_tadd, k_addGroup, k_closeList, k_tempty, k_standAtItem, k_goOnL, k_goOn, k_takeItem, k_tmatchL, k_tmatch, k_endMatchL, k_endMatch, k_startMatchL, k_startMatch, k_note, k_eempty, k_matchMessageL, k_matchMessage, k_judgeMessage, k_judgeMessageN, k_judgeEndsL, k_judgeEnds, k_takeMessageL, k_takeMessage, k_takeGroupL, k_takeGroup, k_fitL, k_fit, k_xadd, k_xempty, k_takeChoice, k_takeMarksL, k_takeMarks, k_takeComponentL, k_takeComponent, k_takeElementL, k_takeElement, k_takeSegmentL2, k_takeSegmentL1]
theorem k_takeApartL {x : Nat} {p : Nat} (fu : Nat) (v0 : Int) (σ : cS) : (c_takeApartL x p fu v0 σ).2.2.2 = σ.2.2 := by
  induction fu generalizing σ v0 with
  | zero => rfl
  | succ fu ih =>
    unfold c_takeApartL
    (repeat' split) <;> simp [ih, cadd, cput, cemp, cI, k_pempty, k_addSegment, k_addElement, k_addComponent, k_addCharacter, k_finish, k_tadd, k_addGroup, k_closeList, k_tempty, k_standAtItem, k_goOnL, k_goOn, k_takeItem, k_tmatchL, k_tmatch, k_endMatchL, k_endMatch, k_startMatchL, k_startMatch, k_note, k_eempty, k_matchMessageL, k_matchMessage, k_judgeMessage, k_judgeMessageN, k_judgeEndsL, k_judgeEnds, k_takeMessageL, k_takeMessage, k_takeGroupL, k_takeGroup, k_fitL, k_fit, k_xadd, k_xempty, k_takeChoice, k_takeMarksL, k_takeMarks, k_takeComponentL, k_takeComponent, k_takeElementL, k_takeElement, k_takeSegmentL2, k_takeSegmentL1, k_takeSegment]
theorem k_takeApart {σ : cS} {x : Nat} {p : Nat} : (c_takeApart σ x p).2.2.2 = σ.2.2 := by
  unfold c_takeApart
  (repeat' split) <;> simp [cadd, cput, cemp, cI, k_pempty, k_addSegment, k_addElement, k_addComponent, k_addCharacter, k_finish, k_tadd, k_addGroup, k_closeList, k_tempty, k_standAtItem, k_goOnL, k_goOn, k_takeItem, k_tmatchL, k_tmatch, k_endMatchL, k_endMatch, k_startMatchL, k_startMatch, k_note, k_eempty, k_matchMessageL, k_matchMessage, k_judgeMessage, k_judgeMessageN, k_judgeEndsL, k_judgeEnds, k_takeMessageL, k_takeMessage, k_takeGroupL, k_takeGroup, k_fitL, k_fit, k_xadd, k_xempty, k_takeChoice, k_takeMarksL, k_takeMarks, k_takeComponentL, k_takeComponent, k_takeElementL, k_takeElement, k_takeSegmentL2, k_takeSegmentL1, k_takeSegment, k_takeApartL]
theorem k_putTag {σ : cS} {q : Nat} {t : Int} : (c_putTag σ q t).2.2 = σ.2.2 := by
  unfold c_putTag
  (repeat' split) <;> simp [cadd, cput, cemp, cI, k_pempty, k_addSegment, k_addElement, k_addComponent, k_addCharacter, k_finish, k_tadd, k_addGroup, k_closeList, k_tempty, k_standAtItem, k_goOnL, k_goOn, k_takeItem, k_tmatchL, k_tmatch, k_endMatchL, k_endMatch, k_startMatchL, k_startMatch, k_note, k_eempty, k_matchMessageL, k_matchMessage, k_judgeMessage, k_judgeMessageN, k_judgeEndsL, k_judgeEnds, k_takeMessageL, k_takeMessage, k_takeGroupL, k_takeGroup, k_fitL, k_fit, k_xadd, k_xempty, k_takeChoice, k_takeMarksL, k_takeMarks, k_takeComponentL, k_takeComponent, k_takeElementL, k_takeElement, k_takeSegmentL2, k_takeSegmentL1, k_takeSegment, k_takeApartL, k_takeApart]
theorem k_putNumber {σ : cS} {q : Nat} {c : Int} : (c_putNumber σ q c).2.2 = σ.2.2 := by
  unfold c_putNumber
  (repeat' split) <;> simp [cadd, cput, cemp, cI, k_pempty, k_addSegment, k_addElement, k_addComponent, k_addCharacter, k_finish, k_tadd, k_addGroup, k_closeList, k_tempty, k_standAtItem, k_goOnL, k_goOn, k_takeItem, k_tmatchL, k_tmatch, k_endMatchL, k_endMatch, k_startMatchL, k_startMatch, k_note, k_eempty, k_matchMessageL, k_matchMessage, k_judgeMessage, k_judgeMessageN, k_judgeEndsL, k_judgeEnds, k_takeMessageL, k_takeMessage, k_takeGroupL, k_takeGroup, k_fitL, k_fit, k_xadd, k_xempty, k_takeChoice, k_takeMarksL, k_takeMarks, k_takeComponentL, k_takeComponent, k_takeElementL, k_takeElement, k_takeSegmentL2, k_takeSegmentL1, k_takeSegment, k_takeApartL, k_takeApart, k_putTag]
theorem k_putComponentL {q : Nat} {p : Nat} {c : Int} (fu : Nat) (v0 v1 : Int) (σ : cS) : (c_putComponentL q p c fu v0 v1 σ).2.2 = σ.2.2 := by
  induction fu generalizing σ v0 v1 with
  | zero => rfl
  | succ fu ih =>
    unfold c_putComponentL
    (repeat' split) <;> simp [ih, cadd, cput, cemp, cI, k_pempty, k_addSegment, k_addElement, k_addComponent, k_addCharacter, k_finish, k_tadd, k_addGroup, k_closeList, k_tempty, k_standAtItem, k_goOnL, k_goOn, k_takeItem, k_tmatchL, k_tmatch, k_endMatchL, k_endMatch, k_startMatchL, k_startMatch, k_note, k_eempty, k_matchMessageL, k_matchMessage, k_judgeMessage, k_judgeMessageN, k_judgeEndsL, k_judgeEnds, k_takeMessageL, k_takeMessage, k_takeGroupL, k_takeGroup, k_fitL, k_fit, k_xadd, k_xempty, k_takeChoice, k_takeMarksL, k_takeMarks, k_takeComponentL, k_takeComponent, k_takeElementL, k_takeElement, k_takeSegmentL2, k_takeSegmentL1, k_takeSegment, k_takeApartL, k_takeApart, k_putTag, k_putNumber]
theorem k_putComponent {σ : cS} {q : Nat} {p : Nat} {c : Int} : (c_putComponent σ q p c).2.2 = σ.2.2 := by
  unfold c_putComponent
  (repeat' split) <;> simp [cadd, cput, cemp, cI, k_pempty, k_addSegment, k_addElement, k_addComponent, k_addCharacter, k_finish, k_tadd, k_addGroup, k_closeList, k_tempty, k_standAtItem, k_goOnL, k_goOn, k_takeItem, k_tmatchL, k_tmatch, k_endMatchL, k_endMatch, k_startMatchL, k_startMatch, k_note, k_eempty, k_matchMessageL, k_matchMessage, k_judgeMessage, k_judgeMessageN, k_judgeEndsL, k_judgeEnds, k_takeMessageL, k_takeMessage, k_takeGroupL, k_takeGroup, k_fitL, k_fit, k_xadd, k_xempty, k_takeChoice, k_takeMarksL, k_takeMarks, k_takeComponentL, k_takeComponent, k_takeElementL, k_takeElement, k_takeSegmentL2, k_takeSegmentL1, k_takeSegment, k_takeApartL, k_takeApart, k_putTag, k_putNumber, k_putComponentL]
theorem k_putElementL {q : Nat} {p : Nat} {g : Int} (fu : Nat) (v0 v1 v2 : Int) (σ : cS) : (c_putElementL q p g fu v0 v1 v2 σ).2.2 = σ.2.2 := by
  induction fu generalizing σ v0 v1 v2 with
  | zero => rfl
  | succ fu ih =>
    unfold c_putElementL
    (repeat' split) <;> simp [ih, cadd, cput, cemp, cI, k_pempty, k_addSegment, k_addElement, k_addComponent, k_addCharacter, k_finish, k_tadd, k_addGroup, k_closeList, k_tempty, k_standAtItem, k_goOnL, k_goOn, k_takeItem, k_tmatchL, k_tmatch, k_endMatchL, k_endMatch, k_startMatchL, k_startMatch, k_note, k_eempty, k_matchMessageL, k_matchMessage, k_judgeMessage, k_judgeMessageN, k_judgeEndsL, k_judgeEnds, k_takeMessageL, k_takeMessage, k_takeGroupL, k_takeGroup, k_fitL, k_fit, k_xadd, k_xempty, k_takeChoice, k_takeMarksL, k_takeMarks, k_takeComponentL, k_takeComponent, k_takeElementL, k_takeElement, k_takeSegmentL2, k_takeSegmentL1, k_takeSegment, k_takeApartL, k_takeApart, k_putTag, k_putNumber, k_putComponentL, k_putComponent]
theorem k_putElement {σ : cS} {q : Nat} {p : Nat} {g : Int} : (c_putElement σ q p g).2.2 = σ.2.2 := by
  unfold c_putElement
  (repeat' split) <;> simp [cadd, cput, cemp, cI, k_pempty, k_addSegment, k_addElement, k_addComponent, k_addCharacter, k_finish, k_tadd, k_addGroup, k_closeList, k_tempty, k_standAtItem, k_goOnL, k_goOn, k_takeItem, k_tmatchL, k_tmatch, k_endMatchL, k_endMatch, k_startMatchL, k_startMatch, k_note, k_eempty, k_matchMessageL, k_matchMessage, k_judgeMessage, k_judgeMessageN, k_judgeEndsL, k_judgeEnds, k_takeMessageL, k_takeMessage, k_takeGroupL, k_takeGroup, k_fitL, k_fit, k_xadd, k_xempty, k_takeChoice, k_takeMarksL, k_takeMarks, k_takeComponentL, k_takeComponent, k_takeElementL, k_takeElement, k_takeSegmentL2, k_takeSegmentL1, k_takeSegment, k_takeApartL, k_takeApart, k_putTag, k_putNumber, k_putComponentL, k_putComponent, k_putElementL]
theorem k_putVerdict {σ : cS} {q : Nat} {t : Int} {p : Nat} {r : Int} {c : Int} : (c_putVerdict σ q t p r c).2.2 = σ.2.2 := by
  unfold c_putVerdict
  (repeat' split) <;> simp [cadd, cput, cemp, cI, k_pempty, k_addSegment, k_addElement, k_addComponent, k_addCharacter, k_finish, k_tadd, k_addGroup, k_closeList, k_tempty, k_standAtItem, k_goOnL, k_goOn, k_takeItem, k_tmatchL, k_tmatch, k_endMatchL, k_endMatch, k_startMatchL, k_startMatch, k_note, k_eempty, k_matchMessageL, k_matchMessage, k_judgeMessage, k_judgeMessageN, k_judgeEndsL, k_judgeEnds, k_takeMessageL, k_takeMessage, k_takeGroupL, k_takeGroup, k_fitL, k_fit, k_xadd, k_xempty, k_takeChoice, k_takeMarksL, k_takeMarks, k_takeComponentL, k_takeComponent, k_takeElementL, k_takeElement, k_takeSegmentL2, k_takeSegmentL1, k_takeSegment, k_takeApartL, k_takeApart, k_putTag, k_putNumber, k_putComponentL, k_putComponent, k_putElementL, k_putElement]
theorem k_writePrintI {q : Nat} {p : Nat} {s : Int} {n : Int} (fu : Nat) (v0 : Int) (σ : cS) : (c_writePrintI q p s n fu v0 σ).2.2 = σ.2.2 := by
  induction fu generalizing σ v0 with
  | zero => rfl
  | succ fu ih =>
    unfold c_writePrintI
    (repeat' split) <;> simp [ih, cadd, cput, cemp, cI, k_pempty, k_addSegment, k_addElement, k_addComponent, k_addCharacter, k_finish, k_tadd, k_addGroup, k_closeList, k_tempty, k_standAtItem, k_goOnL, k_goOn, k_takeItem, k_tmatchL, k_tmatch, k_endMatchL, k_endMatch, k_startMatchL, k_startMatch, k_note, k_eempty, k_matchMessageL, k_matchMessage, k_judgeMessage, k_judgeMessageN, k_judgeEndsL, k_judgeEnds, k_takeMessageL, k_takeMessage, k_takeGroupL, k_takeGroup, k_fitL, k_fit, k_xadd, k_xempty, k_takeChoice, k_takeMarksL, k_takeMarks, k_takeComponentL, k_takeComponent, k_takeElementL, k_takeElement, k_takeSegmentL2, k_takeSegmentL1, k_takeSegment, k_takeApartL, k_takeApart, k_putTag, k_putNumber, k_putComponentL, k_putComponent, k_putElementL, k_putElement, k_putVerdict]
theorem k_writePrintL {q : Nat} {p : Nat} (fu : Nat) (v0 : Int) (σ : cS) : (c_writePrintL q p fu v0 σ).2.2 = σ.2.2 := by
  induction fu generalizing σ v0 with
  | zero => rfl
  | succ fu ih =>
    unfold c_writePrintL
    (repeat' split) <;> simp [ih, cadd, cput, cemp, cI, k_pempty, k_addSegment, k_addElement, k_addComponent, k_addCharacter, k_finish, k_tadd, k_addGroup, k_closeList, k_tempty, k_standAtItem, k_goOnL, k_goOn, k_takeItem, k_tmatchL, k_tmatch, k_endMatchL, k_endMatch, k_startMatchL, k_startMatch, k_note, k_eempty, k_matchMessageL, k_matchMessage, k_judgeMessage, k_judgeMessageN, k_judgeEndsL, k_judgeEnds, k_takeMessageL, k_takeMessage, k_takeGroupL, k_takeGroup, k_fitL, k_fit, k_xadd, k_xempty, k_takeChoice, k_takeMarksL, k_takeMarks, k_takeComponentL, k_takeComponent, k_takeElementL, k_takeElement, k_takeSegmentL2, k_takeSegmentL1, k_takeSegment, k_takeApartL, k_takeApart, k_putTag, k_putNumber, k_putComponentL, k_putComponent, k_putElementL, k_putElement, k_putVerdict, k_writePrintI]
theorem k_writePrint {σ : cS} {q : Nat} {p : Nat} : (c_writePrint σ q p).2.2 = σ.2.2 := by
  unfold c_writePrint
  (repeat' split) <;> simp [cadd, cput, cemp, cI, k_pempty, k_addSegment, k_addElement, k_addComponent, k_addCharacter, k_finish, k_tadd, k_addGroup, k_closeList, k_tempty, k_standAtItem, k_goOnL, k_goOn, k_takeItem, k_tmatchL, k_tmatch, k_endMatchL, k_endMatch, k_startMatchL, k_startMatch, k_note, k_eempty, k_matchMessageL, k_matchMessage, k_judgeMessage, k_judgeMessageN, k_judgeEndsL, k_judgeEnds, k_takeMessageL, k_takeMessage, k_takeGroupL, k_takeGroup, k_fitL, k_fit, k_xadd, k_xempty, k_takeChoice, k_takeMarksL, k_takeMarks, k_takeComponentL, k_takeComponent, k_takeElementL, k_takeElement, k_takeSegmentL2, k_takeSegmentL1, k_takeSegment, k_takeApartL, k_takeApart, k_putTag, k_putNumber, k_putComponentL, k_putComponent, k_putElementL, k_putElement, k_putVerdict, k_writePrintI, k_writePrintL]
theorem k_writeReportL {q : Nat} {e : Nat} (fu : Nat) (v0 v1 : Int) (σ : cS) : (c_writeReportL q e fu v0 v1 σ).2.2 = σ.2.2 := by
  induction fu generalizing σ v0 v1 with
  | zero => rfl
  | succ fu ih =>
    unfold c_writeReportL
    (repeat' split) <;> simp [ih, cadd, cput, cemp, cI, k_pempty, k_addSegment, k_addElement, k_addComponent, k_addCharacter, k_finish, k_tadd, k_addGroup, k_closeList, k_tempty, k_standAtItem, k_goOnL, k_goOn, k_takeItem, k_tmatchL, k_tmatch, k_endMatchL, k_endMatch, k_startMatchL, k_startMatch, k_note, k_eempty, k_matchMessageL, k_matchMessage, k_judgeMessage, k_judgeMessageN, k_judgeEndsL, k_judgeEnds, k_takeMessageL, k_takeMessage, k_takeGroupL, k_takeGroup, k_fitL, k_fit, k_xadd, k_xempty, k_takeChoice, k_takeMarksL, k_takeMarks, k_takeComponentL, k_takeComponent, k_takeElementL, k_takeElement, k_takeSegmentL2, k_takeSegmentL1, k_takeSegment, k_takeApartL, k_takeApart, k_putTag, k_putNumber, k_putComponentL, k_putComponent, k_putElementL, k_putElement, k_putVerdict, k_writePrintI, k_writePrintL, k_writePrint]
theorem k_writeReport {σ : cS} {q : Nat} {e : Nat} : (c_writeReport σ q e).2.2 = σ.2.2 := by
  unfold c_writeReport
  (repeat' split) <;> simp [cadd, cput, cemp, cI, k_pempty, k_addSegment, k_addElement, k_addComponent, k_addCharacter, k_finish, k_tadd, k_addGroup, k_closeList, k_tempty, k_standAtItem, k_goOnL, k_goOn, k_takeItem, k_tmatchL, k_tmatch, k_endMatchL, k_endMatch, k_startMatchL, k_startMatch, k_note, k_eempty, k_matchMessageL, k_matchMessage, k_judgeMessage, k_judgeMessageN, k_judgeEndsL, k_judgeEnds, k_takeMessageL, k_takeMessage, k_takeGroupL, k_takeGroup, k_fitL, k_fit, k_xadd, k_xempty, k_takeChoice, k_takeMarksL, k_takeMarks, k_takeComponentL, k_takeComponent, k_takeElementL, k_takeElement, k_takeSegmentL2, k_takeSegmentL1, k_takeSegment, k_takeApartL, k_takeApart, k_putTag, k_putNumber, k_putComponentL, k_putComponent, k_putElementL, k_putElement, k_putVerdict, k_writePrintI, k_writePrintL, k_writePrint, k_writeReportL]
