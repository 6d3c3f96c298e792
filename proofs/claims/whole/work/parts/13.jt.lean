/-- a word that jg keeps -/
def jok (w : Cond) : Bool := goodWord w || match w with
  | .castable _ _ => true
  | .declares _ => true
  | _ => false
theorem jg.ok {G : jG} {A : Nat → Prop} {s : State} (hg : jg G A s) {w : Cond} (hw : w ∈ lw_tbl) (h : jok w = true) (args : Array Value) : w.before args s = true := by
  simp only [jok, Bool.or_eq_true] at h
  rcases h with h | h
  · exact hg.1 w hw h args
  · split at h
    · exact va_Nw.use rfl (hg.2.2.2.2.2.2.2.2.1 _ _ hw)
    · exact va_Nw.use rfl (hg.2.2.2.2.2.2.2.2.2.1 _ hw)
    · cases h
/-- own can throw a new cls with the text at the entry is: entries ik, is, ic -/
def jthr (own : String) (ik is ic : Nat) (cls text : String) : Prop :=
  Bundle.fit cls = true ∧ Cond.classLink own ik cls ∈ lw_tbl ∧ Cond.initialized cls ∈ lw_tbl ∧ Cond.stringRef own is text ∈ lw_tbl ∧ (∀ w ∈ vx_atS own ic cls ["java/lang/RuntimeException", "java/lang/Exception"], w ∈ lw_tbl ∧ jok w = true ∧ vx_ot w = true)
theorem jthr_of {own : String} {ik is ic : Nat} {cls text : String} (h1 : Bundle.fit cls = true) (h2 : Cond.classLink own ik cls ∈ lw_tbl) (h3 : Cond.initialized cls ∈ lw_tbl) (h4 : Cond.stringRef own is text ∈ lw_tbl) (h5 : (vx_atS own ic cls ["java/lang/RuntimeException", "java/lang/Exception"]).all (fun w => decide (w ∈ lw_tbl) && (jok w && vx_ot w)) = true) : jthr own ik is ic cls text :=
  ⟨h1, h2, h3, h4, fun w hw => by
    have := List.all_eq_true.mp h5 w hw
    simp only [Bool.and_eq_true, decide_eq_true_eq] at this
    exact this⟩
section JT
variable {l : Launch} {G : jG} {Y : jY} {d bc bs n pc : Nat} {ls : List (Option Value)} {st : List Value} {h : jH} {K : jK}
theorem J_throw {ik is ic : Nat} {cls text : String} (d0 : decode Y.1.2.1 pc = .ok (.new ik, 3)) (d3 : decode Y.1.2.1 (pc + 3) = .ok (.dup, 1)) (d4 : decode Y.1.2.1 (pc + 4) = .ok (.ldc is, 2)) (d6 : decode Y.1.2.1 (pc + 6) = .ok (.invokespecial ic, 3)) (d9 : decode Y.1.2.1 (pc + 9) = .ok (.athrow, 1))
    (ht : jthr Y.1.1.cls ik is ic cls text) (hd6 : 6 ≤ d) (hw : (st.map fun v => v.category).sum ≤ 8) (hT : Y.2 = []) (hK : K (.inr cls) n h) : jJ l G Y d (bc + 1) (bs + 6) n pc ls st h K := by
  intro p e R s m args below meth c A H locs cells slots C S L0 L lsR stR C0 hR hL hS hl hst h1 h2 h3 h4
  obtain ⟨t1, t2, t3, t4, t5⟩ := ht
  have hg := C0.2.2.2.2.2.2.2.2.2.2.2.1
  have hfr := C0.2.2.2.2.2.2.2.2.2.1
  have hlo := C0.2.2.2.2.2.2.2.2.2.2.1
  obtain ⟨sa, hsa⟩ := hg.2.2.1 _ _ _ t4
  have hemp : c.exceptionTable.toList = [] := by
    have h9 := C0.2.2.2.2.2.2.2.1
    rw [hT] at h9
    exact List.map_eq_nil_iff.mp h9
  have hcat : (stR.map fun v => v.category).sum ≤ 8 := by rw [hst.cat]; exact hw
  refine vx_throwS (names := ["java/lang/RuntimeException", "java/lang/Exception"]) C0.1 C0.2.1 C0.2.2.2.2.2.2.2.2.1 C0.2.2.2.2.1 t1 (by decide) (hg.1 _ t2 rfl args) (hg.1 _ t3 rfl args) hsa (fun w hw => hg.ok (t5 w hw).1 (t5 w hw).2.1 args) ?_ hg.2.2.2.1 hg.2.2.2.2.1 hS (by rw [C0.2.2.2.1]; exact hl.1) d0 d3 d4 d6 d9 (by rw [hemp]; intro x hx; cases hx) (by show 2 + 3 < R.frames; omega) (by show _ + (13 * (2 + 1) + 43) ≤ R.locals; omega) (by omega) (by omega) C0.2.2.2.2.2.1 ?_ hS.2.2 (by omega) (by omega)
  · intro w hw
    rcases List.mem_cons.mp hw with e1 | hw
    · rw [e1]; rfl
    · rcases List.mem_cons.mp hw with e1 | hw
      · rw [e1]; rfl
      · exact (t5 w hw).2.2
  · intro t hal hsz hk
    refine ⟨L, n, h, hK, hL, ⟨hR.1, hR.2.1, fun k a ha => ?_⟩, Nat.le_trans hS.1 hsz, fun q hq hnA => (hk q (Nat.lt_of_lt_of_le hq hS.1)).trans (hS.2.1 q hq hnA)⟩
    have hcl := hR.2.2 k a ha
    exact (hcl.kept fun hx => hk a (hcl.lt hx)).mono (fun _ z => z) hal jle.rf
theorem J_mmax {idx : Nat} {x y : Int32} (hd : decode Y.1.2.1 pc = .ok (.invokestatic idx, 3)) (hw : Cond.methodLink Y.1.1.cls idx Lib.Math.max.name ∈ lw_tbl) (hw2 : Cond.static Lib.Math.max.name ∈ lw_tbl) (hw3 : Cond.initialized "java/lang/Math" ∈ lw_tbl) (hw4 : Cond.code Lib.Math.max.name Lib.Math.max.code 2 (some .int) ∈ lw_tbl) (hd1 : 1 ≤ d) (hs : (st.map fun v => v.category).sum ≤ 8) (kk : jJ l G Y d bc bs n (pc + 3) ls (.int (if x < y then y else x) :: st) h K) : jJ l G Y d bc bs n pc ls (.int y :: .int x :: st) h K := by
  intro p e R s m args below meth c A H locs cells slots C S L0 L lsR stR C0 hR hL hS hl hst h1 h2 h3 h4
  obtain ⟨s1, e1, q1⟩ := hst.i
  obtain ⟨sr, e2, q2⟩ := q1.i
  subst e2; subst e1
  have hg := C0.2.2.2.2.2.2.2.2.2.2.2.1
  have hfr := C0.2.2.2.2.2.2.2.2.2.1
  have hlo := C0.2.2.2.2.2.2.2.2.2.2.1
  have hcat : (sr.map fun v => v.category).sum ≤ 8 := by rw [q2.cat]; exact hs
  exact va_mmax C0.1 C0.2.1 (C0.2.2.2.1.trans hl.1.symm) C0.2.2.2.2.1 (hg.1 _ hw rfl args) (hg.1 _ hw2 rfl args) (hg.1 _ hw3 rfl args) (hg.1 _ hw4 rfl args) (by omega) (by omega) (by omega) (by omega) hd (kk p e R s m args below meth c A H locs cells slots C S L0 L lsR (.int (if x < y then y else x) :: sr) C0 hR hL hS hl q2.ic h1 h2 h3 h4)
end JT
