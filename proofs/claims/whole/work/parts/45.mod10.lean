def c_mwpE  (s : Int) : Nat → Int → mS → Int
  | 0, u, _ => u
  | fu + 1, u, σ => (if u ≤ (mat (σ.2 26) s) then u else (if (c_mkept σ (u - 1)) = 0 then (c_mwpE s fu (u + (-1)) σ) else u))
theorem t_mwpE {l : Launch} {G : jG} {d bc bs : Nat} {P : jO → mS → Prop} {σ : mS} {s : Int} {u : Int} (hw : wfm σ) (hd : 2 ≤ d) (hs : 0 ≤ s ∧ s ≤ 40) (fu : Nat) (hu : 0 ≤ u ∧ u ≤ 121) (hm : u < (fu : Int)) (kk : CJ jMod mown l G (Yx mX7_writePrint) d bc bs 65 [some (.ref 116), some (vi s), some (vi (c_mwpE s fu u σ)), none, none, none] [] σ P) : CJ jMod mown l G (Yx mX7_writePrint) d bc bs 39 [some (.ref 116), some (vi s), some (vi u), none, none, none] [] σ P := by
  induction fu generalizing σ u with
  | zero => exact absurd hm (by omega)
  | succ fu ih =>
    refine C_iload_n dX7_writePrint_39 rfl ?_
    refine C_aload_n dX7_writePrint_40 rfl ?_
    refine C_get (v := .ref 130) dX7_writePrint_41 f_X7_54 (fun h hc => ⟨_, hc.1, rfl⟩) ?_
    refine C_iload_n dX7_writePrint_44 rfl ?_
    refine C_iald (v := vi (mat (σ.2 26) s)) dX7_writePrint_45 (by omega) (by omega) (fun h hc => hc.rd26 hw (by omega) (by omega)) ?_
    have e_45 := hw.a26 s
    refine C_icmp_le (tgt := 65) dX7_writePrint_46 (by decide) (by omega) (by omega) (fun c_46 => ?_) (fun c_46 => ?_)
    · rw [c_mwpE, if_pos (by omega)] at kk
      refine CJ.mono (ls' := [some (.ref 116), some (vi s), some (vi u), none, none, none]) (lsub_ok (by repeat (first | exact trivial | refine ⟨rfl, ?_⟩))) (fun _ _ q => q) ?_
      exact kk
    · refine C_aload_n dX7_writePrint_49 rfl ?_
      refine C_iload_n dX7_writePrint_50 rfl ?_
      refine C_iconst dX7_writePrint_51 ?_
      refine C_isub dX7_writePrint_52 ?_
      refine D_callV (As := [vi _]) (d' := 1) (t_mkept hw (Nat.le_refl _) (by omega)) dX7_writePrint_53 v_X7_284 (fun h hc => ⟨_, hc.1⟩) rfl (Nat.le_of_ble_eq_true rfl) (by omega) (Nat.le_of_ble_eq_true rfl) ?_
      simp only [Option.toList, List.nil_append, List.cons_append]
      have r_53 := And.intro (r_mkept (x := (u - 1)) hw (by omega)) (And.intro (hw.a28 ((u - 1) + 1)) (hw.a28 (u - 1)))
      refine C_if_ne (tgt := 65) dX7_writePrint_56 (by decide) (by omega) (fun c_56 => ?_) (fun c_56 => ?_)
      · rw [c_mwpE, if_neg (by omega), if_neg (by omega)] at kk
        refine CJ.mono (ls' := [some (.ref 116), some (vi s), some (vi u), none, none, none]) (lsub_ok (by repeat (first | exact trivial | refine ⟨rfl, ?_⟩))) (fun _ _ q => q) ?_
        exact kk
      · refine C_iinc dX7_writePrint_59 rfl (by decide) rfl ?_
        simp only [List.set_cons_zero, List.set_cons_succ]
        refine C_goto (tgt := 39) dX7_writePrint_62 (by decide) ?_
        rw [c_mwpE, if_neg (by omega), if_pos (by omega)] at kk
        refine CJ.mono (ls' := [some (.ref 116), some (vi s), some (vi (u + (-1))), none, none, none]) (lsub_ok (by repeat (first | exact trivial | refine ⟨rfl, ?_⟩))) (fun _ _ q => q) ?_
        exact ih hw (by omega) (by omega) kk
theorem r_mwpE {σ : mS} {s : Int} {u : Int} (hw : wfm σ) (hs : 0 ≤ s ∧ s ≤ 40) (fu : Nat) (hu : 0 ≤ u ∧ u ≤ 121) : (c_mwpE s fu u σ) ≤ u ∧ 0 ≤ (c_mwpE s fu u σ) := by
  induction fu generalizing σ u with
  | zero => unfold c_mwpE; omega
  | succ fu ih =>
    unfold c_mwpE
    split
    · have e_45 := hw.a26 s
      omega
    · split
      · have e_45 := hw.a26 s
        have r_53 := And.intro (r_mkept (x := (u - 1)) hw (by omega)) (And.intro (hw.a28 ((u - 1) + 1)) (hw.a28 (u - 1)))
        refine ⟨Int.le_trans (ih hw (by omega)).1 (by omega), (ih hw (by omega)).2⟩
      · have e_45 := hw.a26 s
        have r_53 := And.intro (r_mkept (x := (u - 1)) hw (by omega)) (And.intro (hw.a28 ((u - 1) + 1)) (hw.a28 (u - 1)))
        omega
def c_mwpK  (s : Int) (u : Int) (x : Int) (n : Int) : Nat → Int → mS → mS
  | 0, _, σ => σ
  | fu + 1, k, σ => (if n ≤ k then σ else (if k ≤ 0 then (c_mwpK s u x n fu (k + 1) (c_mwriteComponent σ ((mat (σ.2 28) x) + k))) else (c_mwpK s u x n fu (k + 1) (c_mwriteComponent (c_mwrite σ 58) ((mat (σ.2 28) x) + k)))))
theorem ml_mwpK {s : Int} {u : Int} {x : Int} {n : Int} {fu : Nat} {v0 : Int} {σ : mS} : mle σ (c_mwpK s u x n fu v0 σ) := by
  induction fu generalizing σ v0 with
  | zero => exact mle_refl _
  | succ fu ih =>
    have ih2 : ∀ (ρ τ : mS) (v0 : Int), mle ρ τ → mle ρ (c_mwpK s u x n fu v0 τ) := fun ρ τ _ h => mle_trans h ih
    unfold c_mwpK
    simp (maxDischargeDepth := 300) only [mle_refl, ↓sl_ite, ↓ih2, ↓sl_mwrite, ↓sl_mwriteTag, ↓sl_mwriteComponentL, ↓sl_mwriteComponent, ↓sl_mwriteNumberL, ↓sl_mwriteNumber, ↓sl_mwriteLine, ↓sl_mwriteReportL]
theorem sl_mwpK {s : Int} {u : Int} {x : Int} {n : Int} {v0 : Int} {fu : Nat} {ρ τ : mS} (h : mle ρ τ) : mle ρ (c_mwpK s u x n fu v0 τ) := mle_trans h ml_mwpK
theorem t_mwpK {l : Launch} {G : jG} {d bc bs : Nat} {P : jO → mS → Prop} {σ : mS} {s : Int} {u : Int} {x : Int} {n : Int} {k : Int} (hw : wfm σ) (hd : 2 ≤ d) (hs : 0 ≤ s ∧ s ≤ 40) (hu : 0 ≤ u ∧ u ≤ 121) (hx : 0 ≤ x ∧ x ≤ 121) (hn : -121 ≤ n ∧ n ≤ 121) (fu : Nat) (hk : 0 ≤ k ∧ k ≤ 121) (hn2 : n ≤ max ((mat (σ.2 28) (x + 1)) - (mat (σ.2 28) x)) 0) (hr : mok (c_mwpK s u x n fu k σ)) (hm : 121 - k < (fu : Int)) (kk : CJ jMod mown l G (Yx mX7_writePrint) d bc bs 130 [some (.ref 116), some (vi s), some (vi u), some (vi x), some (vi n), none] [] (c_mwpK s u x n fu k σ) P) : CJ jMod mown l G (Yx mX7_writePrint) d bc bs 93 [some (.ref 116), some (vi s), some (vi u), some (vi x), some (vi n), some (vi k)] [] σ P := by
  induction fu generalizing σ k with
  | zero => have k1 := hw.a28 (x + 1); have k2 := hw.a28 x; exact absurd hm (by omega)
  | succ fu ih =>
    have k1 := hw.a28 (x + 1)
    have k2 := hw.a28 x
    refine C_iload dX7_writePrint_93 rfl ?_
    refine C_iload dX7_writePrint_95 rfl ?_
    refine C_icmp_ge (tgt := 130) dX7_writePrint_97 (by decide) (by omega) (by omega) (fun c_97 => ?_) (fun c_97 => ?_)
    · rw [c_mwpK, if_pos (by omega)] at kk
      refine CJ.mono (ls' := [some (.ref 116), some (vi s), some (vi u), some (vi x), some (vi n), none]) (lsub_ok (by repeat (first | exact trivial | refine ⟨rfl, ?_⟩))) (fun _ _ q => q) ?_
      exact kk
    · refine C_iload dX7_writePrint_100 rfl ?_
      refine C_if_le (tgt := 111) dX7_writePrint_102 (by decide) (by omega) (fun c_102 => ?_) (fun c_102 => ?_)
      · refine C_aload_n dX7_writePrint_111 rfl ?_
        refine C_aload_n dX7_writePrint_112 rfl ?_
        refine C_get (v := .ref 131) dX7_writePrint_113 f_X7_57 (fun h hc => ⟨_, hc.1, rfl⟩) ?_
        refine C_iload_n dX7_writePrint_116 rfl ?_
        refine C_iald (v := vi (mat (σ.2 28) x)) dX7_writePrint_117 (by omega) (by omega) (fun h hc => hc.rd28 hw (by omega) (by omega)) ?_
        have e_117 := hw.a28 x
        refine C_iload dX7_writePrint_118 rfl ?_
        refine C_iadd dX7_writePrint_120 ?_
        refine D_callV (As := [vi _]) (d' := 1) (t_mwriteComponent hw (Nat.le_refl _) (by omega) (mok_le (by rw [c_mwpK, if_neg (by omega), if_pos (by omega)]; simp (maxDischargeDepth := 300) only [mle_refl, ↓sl_ite, ↓sl_mwrite, ↓sl_mwriteTag, ↓sl_mwriteComponentL, ↓sl_mwriteComponent, ↓sl_mwriteNumberL, ↓sl_mwriteNumber, ↓sl_mwriteLine, ↓sl_mwriteReportL, ↓sl_mwpK]) hr)) dX7_writePrint_121 v_X7_287 (fun h hc => ⟨_, hc.1⟩) rfl (Nat.le_of_ble_eq_true rfl) (by omega) (Nat.le_of_ble_eq_true rfl) ?_
        simp only [Option.toList, List.nil_append, List.cons_append]
        have hw3 : wfm (c_mwriteComponent σ ((mat (σ.2 28) x) + k)) := w_mwriteComponent hw (by omega) (mok_le (by rw [c_mwpK, if_neg (by omega), if_pos (by omega)]; simp (maxDischargeDepth := 300) only [mle_refl, ↓sl_ite, ↓sl_mwrite, ↓sl_mwriteTag, ↓sl_mwriteComponentL, ↓sl_mwriteComponent, ↓sl_mwriteNumberL, ↓sl_mwriteNumber, ↓sl_mwriteLine, ↓sl_mwriteReportL, ↓sl_mwpK]) hr)
        refine C_iinc dX7_writePrint_124 rfl (by decide) rfl ?_
        simp only [List.set_cons_zero, List.set_cons_succ]
        refine C_goto (tgt := 93) dX7_writePrint_127 (by decide) ?_
        rw [c_mwpK, if_neg (by omega), if_pos (by omega)] at kk
        refine CJ.mono (ls' := [some (.ref 116), some (vi s), some (vi u), some (vi x), some (vi n), some (vi (k + 1))]) (lsub_ok (by repeat (first | exact trivial | refine ⟨rfl, ?_⟩))) (fun _ _ q => q) ?_
        exact ih hw3 (by omega) (by (try rw [g2_mwriteComponent (k := 28) (by decide)]); (try rw [g2_mwrite (k := 28) (by decide)]); exact hn2) (by rw [c_mwpK, if_neg (by omega), if_pos (by omega)] at hr; exact hr) (by omega) kk
      · refine C_aload_n dX7_writePrint_105 rfl ?_
        refine C_bipush dX7_writePrint_106 (by decide) ?_
        refine D_callV (As := [vi _]) (d' := 0) (t_mwrite hw (Nat.le_refl _) (by omega) (mok_le (by rw [c_mwpK, if_neg (by omega), if_neg (by omega)]; simp (maxDischargeDepth := 300) only [mle_refl, ↓sl_ite, ↓sl_mwrite, ↓sl_mwriteTag, ↓sl_mwriteComponentL, ↓sl_mwriteComponent, ↓sl_mwriteNumberL, ↓sl_mwriteNumber, ↓sl_mwriteLine, ↓sl_mwriteReportL, ↓sl_mwpK]) hr)) dX7_writePrint_108 v_X7_278 (fun h hc => ⟨_, hc.1⟩) rfl (Nat.le_of_ble_eq_true rfl) (by omega) (Nat.le_of_ble_eq_true rfl) ?_
        simp only [Option.toList, List.nil_append, List.cons_append]
        have hw4 : wfm (c_mwrite σ 58) := w_mwrite hw (by omega) (mok_le (by rw [c_mwpK, if_neg (by omega), if_neg (by omega)]; simp (maxDischargeDepth := 300) only [mle_refl, ↓sl_ite, ↓sl_mwrite, ↓sl_mwriteTag, ↓sl_mwriteComponentL, ↓sl_mwriteComponent, ↓sl_mwriteNumberL, ↓sl_mwriteNumber, ↓sl_mwriteLine, ↓sl_mwriteReportL, ↓sl_mwpK]) hr)
        refine C_aload_n dX7_writePrint_111 rfl ?_
        refine C_aload_n dX7_writePrint_112 rfl ?_
        refine C_get (v := .ref 131) dX7_writePrint_113 f_X7_57 (fun h hc => ⟨_, hc.1, rfl⟩) ?_
        refine C_iload_n dX7_writePrint_116 rfl ?_
        refine C_iald (v := vi (mat (σ.2 28) x)) dX7_writePrint_117 (by omega) (by omega) (fun h hc => (hc.rd28 hw4 (by omega) (by omega)).imp (fun vs q => ⟨q.1, q.2.trans (congrArg (fun z => some (vi (mat z x))) (show (c_mwrite σ 58).2 28 = σ.2 28 by simp [mfl, mar, upF, g2_mwrite]))⟩)) ?_
        have e_117 := hw.a28 x
        refine C_iload dX7_writePrint_118 rfl ?_
        refine C_iadd dX7_writePrint_120 ?_
        refine D_callV (As := [vi _]) (d' := 1) (t_mwriteComponent hw4 (Nat.le_refl _) (by omega) (mok_le (by rw [c_mwpK, if_neg (by omega), if_neg (by omega)]; simp (maxDischargeDepth := 300) only [mle_refl, ↓sl_ite, ↓sl_mwrite, ↓sl_mwriteTag, ↓sl_mwriteComponentL, ↓sl_mwriteComponent, ↓sl_mwriteNumberL, ↓sl_mwriteNumber, ↓sl_mwriteLine, ↓sl_mwriteReportL, ↓sl_mwpK]) hr)) dX7_writePrint_121 v_X7_287 (fun h hc => ⟨_, hc.1⟩) rfl (Nat.le_of_ble_eq_true rfl) (by omega) (Nat.le_of_ble_eq_true rfl) ?_
        simp only [Option.toList, List.nil_append, List.cons_append]
        have hw5 : wfm (c_mwriteComponent (c_mwrite σ 58) ((mat (σ.2 28) x) + k)) := w_mwriteComponent hw4 (by omega) (mok_le (by rw [c_mwpK, if_neg (by omega), if_neg (by omega)]; simp (maxDischargeDepth := 300) only [mle_refl, ↓sl_ite, ↓sl_mwrite, ↓sl_mwriteTag, ↓sl_mwriteComponentL, ↓sl_mwriteComponent, ↓sl_mwriteNumberL, ↓sl_mwriteNumber, ↓sl_mwriteLine, ↓sl_mwriteReportL, ↓sl_mwpK]) hr)
        refine C_iinc dX7_writePrint_124 rfl (by decide) rfl ?_
        simp only [List.set_cons_zero, List.set_cons_succ]
        refine C_goto (tgt := 93) dX7_writePrint_127 (by decide) ?_
        rw [c_mwpK, if_neg (by omega), if_neg (by omega)] at kk
        refine CJ.mono (ls' := [some (.ref 116), some (vi s), some (vi u), some (vi x), some (vi n), some (vi (k + 1))]) (lsub_ok (by repeat (first | exact trivial | refine ⟨rfl, ?_⟩))) (fun _ _ q => q) ?_
        exact ih hw5 (by omega) (by (try rw [g2_mwriteComponent (k := 28) (by decide)]); (try rw [g2_mwrite (k := 28) (by decide)]); exact hn2) (by rw [c_mwpK, if_neg (by omega), if_neg (by omega)] at hr; exact hr) (by omega) kk
theorem w_mwpK {σ : mS} {s : Int} {u : Int} {x : Int} {n : Int} {k : Int} (hw : wfm σ) (hs : 0 ≤ s ∧ s ≤ 40) (hu : 0 ≤ u ∧ u ≤ 121) (hx : 0 ≤ x ∧ x ≤ 121) (hn : -121 ≤ n ∧ n ≤ 121) (fu : Nat) (hk : 0 ≤ k ∧ k ≤ 121) (hn2 : n ≤ max ((mat (σ.2 28) (x + 1)) - (mat (σ.2 28) x)) 0) (hr : mok (c_mwpK s u x n fu k σ)) : wfm (c_mwpK s u x n fu k σ) := by
  induction fu generalizing σ k with
  | zero => exact hw
  | succ fu ih =>
    have k1 := hw.a28 (x + 1)
    have k2 := hw.a28 x
    unfold c_mwpK
    split
    · exact hw
    · split
      · have e_117 := hw.a28 x
        have hw3 : wfm (c_mwriteComponent σ ((mat (σ.2 28) x) + k)) := w_mwriteComponent hw (by omega) (mok_le (by rw [c_mwpK, if_neg (by omega), if_pos (by omega)]; simp (maxDischargeDepth := 300) only [mle_refl, ↓sl_ite, ↓sl_mwrite, ↓sl_mwriteTag, ↓sl_mwriteComponentL, ↓sl_mwriteComponent, ↓sl_mwriteNumberL, ↓sl_mwriteNumber, ↓sl_mwriteLine, ↓sl_mwriteReportL, ↓sl_mwpK]) hr)
        exact (ih hw3 (by omega) (by (try rw [g2_mwriteComponent (k := 28) (by decide)]); (try rw [g2_mwrite (k := 28) (by decide)]); exact hn2) (by rw [c_mwpK, if_neg (by omega), if_pos (by omega)] at hr; exact hr))
      · have hw4 : wfm (c_mwrite σ 58) := w_mwrite hw (by omega) (mok_le (by rw [c_mwpK, if_neg (by omega), if_neg (by omega)]; simp (maxDischargeDepth := 300) only [mle_refl, ↓sl_ite, ↓sl_mwrite, ↓sl_mwriteTag, ↓sl_mwriteComponentL, ↓sl_mwriteComponent, ↓sl_mwriteNumberL, ↓sl_mwriteNumber, ↓sl_mwriteLine, ↓sl_mwriteReportL, ↓sl_mwpK]) hr)
        have e_117 := hw.a28 x
        have hw5 : wfm (c_mwriteComponent (c_mwrite σ 58) ((mat (σ.2 28) x) + k)) := w_mwriteComponent hw4 (by omega) (mok_le (by rw [c_mwpK, if_neg (by omega), if_neg (by omega)]; simp (maxDischargeDepth := 300) only [mle_refl, ↓sl_ite, ↓sl_mwrite, ↓sl_mwriteTag, ↓sl_mwriteComponentL, ↓sl_mwriteComponent, ↓sl_mwriteNumberL, ↓sl_mwriteNumber, ↓sl_mwriteLine, ↓sl_mwriteReportL, ↓sl_mwpK]) hr)
        exact (ih hw5 (by omega) (by (try rw [g2_mwriteComponent (k := 28) (by decide)]); (try rw [g2_mwrite (k := 28) (by decide)]); exact hn2) (by rw [c_mwpK, if_neg (by omega), if_neg (by omega)] at hr; exact hr))
theorem g1_mwpK {s : Int} {u : Int} {x : Int} {n : Int} {fu : Nat} {v0 : Int} {σ : mS} {k : Nat} (h : k ∉ ([48, 50] : List Nat)) : (c_mwpK s u x n fu v0 σ).1 k = σ.1 k := by
  simp only [List.mem_cons, List.not_mem_nil, or_false, not_or] at h
  induction fu generalizing σ v0 with
  | zero => rfl
  | succ fu ih =>
    unfold c_mwpK
    (repeat' split) <;> simp [mfl, mar, upF, h, ih, g1_mwrite, g1_mwriteComponent]
theorem g2_mwpK {s : Int} {u : Int} {x : Int} {n : Int} {fu : Nat} {v0 : Int} {σ : mS} {k : Nat} (h : k ∉ ([49, 51] : List Nat)) : (c_mwpK s u x n fu v0 σ).2 k = σ.2 k := by
  simp only [List.mem_cons, List.not_mem_nil, or_false, not_or] at h
  induction fu generalizing σ v0 with
  | zero => rfl
  | succ fu ih =>
    unfold c_mwpK
    (repeat' split) <;> simp [mfl, mar, upF, h, ih, g2_mwrite, g2_mwriteComponent]
def c_mwpX  (s : Int) (u : Int) : Nat → Int → mS → mS
  | 0, _, σ => σ
  | fu + 1, x, σ => (if u ≤ x then σ else (c_mwpX s u fu (x + 1) (c_mwpK s u x (c_mkept (c_mwrite σ 43) x) (122) 0 (c_mwrite σ 43))))
theorem ml_mwpX {s : Int} {u : Int} {fu : Nat} {v0 : Int} {σ : mS} : mle σ (c_mwpX s u fu v0 σ) := by
  induction fu generalizing σ v0 with
  | zero => exact mle_refl _
  | succ fu ih =>
    have ih2 : ∀ (ρ τ : mS) (v0 : Int), mle ρ τ → mle ρ (c_mwpX s u fu v0 τ) := fun ρ τ _ h => mle_trans h ih
    unfold c_mwpX
    simp (maxDischargeDepth := 300) only [mle_refl, ↓sl_ite, ↓ih2, ↓sl_mwrite, ↓sl_mwriteTag, ↓sl_mwriteComponentL, ↓sl_mwriteComponent, ↓sl_mwriteNumberL, ↓sl_mwriteNumber, ↓sl_mwriteLine, ↓sl_mwriteReportL, ↓sl_mwpK]
theorem sl_mwpX {s : Int} {u : Int} {v0 : Int} {fu : Nat} {ρ τ : mS} (h : mle ρ τ) : mle ρ (c_mwpX s u fu v0 τ) := mle_trans h ml_mwpX
theorem t_mwpX {l : Launch} {G : jG} {d bc bs : Nat} {P : jO → mS → Prop} {σ : mS} {s : Int} {u : Int} {x : Int} (hw : wfm σ) (hd : 2 ≤ d) (hs : 0 ≤ s ∧ s ≤ 40) (hu : 0 ≤ u ∧ u ≤ 121) (fu : Nat) (hx : 0 ≤ x ∧ x ≤ 121) (hr : mok (c_mwpX s u fu x σ)) (hm : 121 - x < (fu : Int)) (kk : CJ jMod mown l G (Yx mX7_writePrint) d bc bs 136 [some (.ref 116), some (vi s), some (vi u), none, none, none] [] (c_mwpX s u fu x σ) P) : CJ jMod mown l G (Yx mX7_writePrint) d bc bs 72 [some (.ref 116), some (vi s), some (vi u), some (vi x), none, none] [] σ P := by
  induction fu generalizing σ x with
  | zero => exact absurd hm (by omega)
  | succ fu ih =>
    refine C_iload_n dX7_writePrint_72 rfl ?_
    refine C_iload_n dX7_writePrint_73 rfl ?_
    refine C_icmp_ge (tgt := 136) dX7_writePrint_74 (by decide) (by omega) (by omega) (fun c_74 => ?_) (fun c_74 => ?_)
    · rw [c_mwpX, if_pos (by omega)] at kk
      refine CJ.mono (ls' := [some (.ref 116), some (vi s), some (vi u), none, none, none]) (lsub_ok (by repeat (first | exact trivial | refine ⟨rfl, ?_⟩))) (fun _ _ q => q) ?_
      exact kk
    · refine C_aload_n dX7_writePrint_77 rfl ?_
      refine C_bipush dX7_writePrint_78 (by decide) ?_
      refine D_callV (As := [vi _]) (d' := 0) (t_mwrite hw (Nat.le_refl _) (by omega) (mok_le (by rw [c_mwpX, if_neg (by omega)]; simp (maxDischargeDepth := 300) only [mle_refl, ↓sl_ite, ↓sl_mwrite, ↓sl_mwriteTag, ↓sl_mwriteComponentL, ↓sl_mwriteComponent, ↓sl_mwriteNumberL, ↓sl_mwriteNumber, ↓sl_mwriteLine, ↓sl_mwriteReportL, ↓sl_mwpK, ↓sl_mwpX]) hr)) dX7_writePrint_80 v_X7_278 (fun h hc => ⟨_, hc.1⟩) rfl (Nat.le_of_ble_eq_true rfl) (by omega) (Nat.le_of_ble_eq_true rfl) ?_
      simp only [Option.toList, List.nil_append, List.cons_append]
      have hw2 : wfm (c_mwrite σ 43) := w_mwrite hw (by omega) (mok_le (by rw [c_mwpX, if_neg (by omega)]; simp (maxDischargeDepth := 300) only [mle_refl, ↓sl_ite, ↓sl_mwrite, ↓sl_mwriteTag, ↓sl_mwriteComponentL, ↓sl_mwriteComponent, ↓sl_mwriteNumberL, ↓sl_mwriteNumber, ↓sl_mwriteLine, ↓sl_mwriteReportL, ↓sl_mwpK, ↓sl_mwpX]) hr)
      refine C_aload_n dX7_writePrint_83 rfl ?_
      refine C_iload_n dX7_writePrint_84 rfl ?_
      refine D_callV (As := [vi _]) (d' := 1) (t_mkept hw2 (Nat.le_refl _) (by omega)) dX7_writePrint_85 v_X7_284 (fun h hc => ⟨_, hc.1⟩) rfl (Nat.le_of_ble_eq_true rfl) (by omega) (Nat.le_of_ble_eq_true rfl) ?_
      simp only [Option.toList, List.nil_append, List.cons_append]
      have r_85 := And.intro (r_mkept (x := x) hw2 (by omega)) (And.intro (hw2.a28 (x + 1)) (hw2.a28 x))
      refine C_istore dX7_writePrint_88 (by decide) rfl ?_
      simp only [List.set_cons_zero, List.set_cons_succ, jfin0, jfin1, jfin2, jfin3]
      refine C_iconst dX7_writePrint_90 ?_
      refine C_istore dX7_writePrint_91 (by decide) rfl ?_
      simp only [List.set_cons_zero, List.set_cons_succ, jfin0, jfin1, jfin2, jfin3]
      refine CJ.mono (ls' := [some (.ref 116), some (vi s), some (vi u), some (vi x), some (vi (c_mkept (c_mwrite σ 43) x)), some (vi 0)]) (lsub_ok (by repeat (first | exact trivial | refine ⟨rfl, ?_⟩))) (fun _ _ q => q) ?_
      refine t_mwpK hw2 hd (by omega) (by omega) (by omega) (by omega) (122) (by omega) (by omega)  (mok_le (by rw [c_mwpX, if_neg (by omega)]; simp (maxDischargeDepth := 300) only [mle_refl, ↓sl_ite, ↓sl_mwrite, ↓sl_mwriteTag, ↓sl_mwriteComponentL, ↓sl_mwriteComponent, ↓sl_mwriteNumberL, ↓sl_mwriteNumber, ↓sl_mwriteLine, ↓sl_mwriteReportL, ↓sl_mwpK, ↓sl_mwpX]) hr) (by omega) ?_
      have hw3 : wfm (c_mwpK s u x (c_mkept (c_mwrite σ 43) x) (122) 0 (c_mwrite σ 43)) := w_mwpK (s := s) (u := u) (x := x) (n := (c_mkept (c_mwrite σ 43) x)) (k := 0) hw2 (by omega) (by omega) (by omega) (by omega) (122) (by omega) (by omega)  (mok_le (by rw [c_mwpX, if_neg (by omega)]; simp (maxDischargeDepth := 300) only [mle_refl, ↓sl_ite, ↓sl_mwrite, ↓sl_mwriteTag, ↓sl_mwriteComponentL, ↓sl_mwriteComponent, ↓sl_mwriteNumberL, ↓sl_mwriteNumber, ↓sl_mwriteLine, ↓sl_mwriteReportL, ↓sl_mwpK, ↓sl_mwpX]) hr)
      refine C_iinc dX7_writePrint_130 rfl (by decide) rfl ?_
      simp only [List.set_cons_zero, List.set_cons_succ]
      refine C_goto (tgt := 72) dX7_writePrint_133 (by decide) ?_
      rw [c_mwpX, if_neg (by omega)] at kk
      refine CJ.mono (ls' := [some (.ref 116), some (vi s), some (vi u), some (vi (x + 1)), none, none]) (lsub_ok (by repeat (first | exact trivial | refine ⟨rfl, ?_⟩))) (fun _ _ q => q) ?_
      exact ih hw3 (by omega) (by rw [c_mwpX, if_neg (by omega)] at hr; exact hr) (by omega) kk
theorem w_mwpX {σ : mS} {s : Int} {u : Int} {x : Int} (hw : wfm σ) (hs : 0 ≤ s ∧ s ≤ 40) (hu : 0 ≤ u ∧ u ≤ 121) (fu : Nat) (hx : 0 ≤ x ∧ x ≤ 121) (hr : mok (c_mwpX s u fu x σ)) : wfm (c_mwpX s u fu x σ) := by
  induction fu generalizing σ x with
  | zero => exact hw
  | succ fu ih =>
    unfold c_mwpX
    split
    · exact hw
    · have hw2 : wfm (c_mwrite σ 43) := w_mwrite hw (by omega) (mok_le (by rw [c_mwpX, if_neg (by omega)]; simp (maxDischargeDepth := 300) only [mle_refl, ↓sl_ite, ↓sl_mwrite, ↓sl_mwriteTag, ↓sl_mwriteComponentL, ↓sl_mwriteComponent, ↓sl_mwriteNumberL, ↓sl_mwriteNumber, ↓sl_mwriteLine, ↓sl_mwriteReportL, ↓sl_mwpK, ↓sl_mwpX]) hr)
      have r_85 := And.intro (r_mkept (x := x) hw2 (by omega)) (And.intro (hw2.a28 (x + 1)) (hw2.a28 x))
      have hw3 : wfm (c_mwpK s u x (c_mkept (c_mwrite σ 43) x) (122) 0 (c_mwrite σ 43)) := w_mwpK (s := s) (u := u) (x := x) (n := (c_mkept (c_mwrite σ 43) x)) (k := 0) hw2 (by omega) (by omega) (by omega) (by omega) (122) (by omega) (by omega)  (mok_le (by rw [c_mwpX, if_neg (by omega)]; simp (maxDischargeDepth := 300) only [mle_refl, ↓sl_ite, ↓sl_mwrite, ↓sl_mwriteTag, ↓sl_mwriteComponentL, ↓sl_mwriteComponent, ↓sl_mwriteNumberL, ↓sl_mwriteNumber, ↓sl_mwriteLine, ↓sl_mwriteReportL, ↓sl_mwpK, ↓sl_mwpX]) hr)
      exact (ih hw3 (by omega) (by rw [c_mwpX, if_neg (by omega)] at hr; exact hr))
theorem g1_mwpX {s : Int} {u : Int} {fu : Nat} {v0 : Int} {σ : mS} {k : Nat} (h : k ∉ ([48, 50] : List Nat)) : (c_mwpX s u fu v0 σ).1 k = σ.1 k := by
  simp only [List.mem_cons, List.not_mem_nil, or_false, not_or] at h
  induction fu generalizing σ v0 with
  | zero => rfl
  | succ fu ih =>
    unfold c_mwpX
    (repeat' split) <;> simp [mfl, mar, upF, h, ih, g1_mwrite, g1_mwpK]
theorem g2_mwpX {s : Int} {u : Int} {fu : Nat} {v0 : Int} {σ : mS} {k : Nat} (h : k ∉ ([49, 51] : List Nat)) : (c_mwpX s u fu v0 σ).2 k = σ.2 k := by
  simp only [List.mem_cons, List.not_mem_nil, or_false, not_or] at h
  induction fu generalizing σ v0 with
  | zero => rfl
  | succ fu ih =>
    unfold c_mwpX
    (repeat' split) <;> simp [mfl, mar, upF, h, ih, g2_mwrite, g2_mwpK]
def c_mwritePrintL  : Nat → Int → mS → mS
  | 0, _, σ => σ
  | fu + 1, s, σ => (if (σ.1 24) ≤ s then σ else (c_mwritePrintL  fu (s + 1) (c_mwrite (c_mwpX s (c_mwpE s (122) (mat (σ.2 26) (s + 1)) (c_mwriteTag σ (mat (σ.2 25) s))) (122) (mat (σ.2 26) s) (c_mwriteTag σ (mat (σ.2 25) s))) 39)))
def c_mwritePrint (σ : mS)  : mS := (c_mwritePrintL  (41) 0 (mfl (mfl σ 52 0) 48 0))
theorem ml_mwritePrintL  {fu : Nat} {v0 : Int} {σ : mS} : mle σ (c_mwritePrintL  fu v0 σ) := by
  induction fu generalizing σ v0 with
  | zero => exact mle_refl _
  | succ fu ih =>
    have ih2 : ∀ (ρ τ : mS) (v0 : Int), mle ρ τ → mle ρ (c_mwritePrintL  fu v0 τ) := fun ρ τ _ h => mle_trans h ih
    unfold c_mwritePrintL
    simp (maxDischargeDepth := 300) only [mle_refl, ↓sl_ite, ↓ih2, ↓sl_mwrite, ↓sl_mwriteTag, ↓sl_mwriteComponentL, ↓sl_mwriteComponent, ↓sl_mwriteNumberL, ↓sl_mwriteNumber, ↓sl_mwriteLine, ↓sl_mwriteReportL, ↓sl_mwpK, ↓sl_mwpX]
theorem sl_mwritePrintL {v0 : Int} {fu : Nat} {ρ τ : mS} (h : mle ρ τ) : mle ρ (c_mwritePrintL  fu v0 τ) := mle_trans h ml_mwritePrintL
theorem t_mwritePrintL {l : Launch} {G : jG} {d : Nat} {σ : mS}  {s : Int} (hw : wfm σ) (hd : 2 ≤ d)  (fu : Nat) (hs : 0 ≤ s ∧ s ≤ 40) (hr : mok (c_mwritePrintL fu s σ)) (hm : 40 - s < (fu : Int)) : CJ jMod mown l G (Yx mX7_writePrint) d 0 0 12 [some (.ref 116), some (vi s), none, none, none, none] [] σ (det none (c_mwritePrintL  fu s σ)) := by
  induction fu generalizing σ s with
  | zero => exact absurd hm (by omega)
  | succ fu ih =>
    refine C_iload_n dX7_writePrint_12 rfl ?_
    refine C_aload_n dX7_writePrint_13 rfl ?_
    refine C_get (v := vi (σ.1 24)) dX7_writePrint_14 f_X7_187 (fun h hc => ⟨_, hc.1, rfl⟩) ?_
    have g_14 := hw.f24
    refine C_icmp_ge (tgt := 148) dX7_writePrint_17 (by decide) (by omega) (by omega) (fun c_17 => ?_) (fun c_17 => ?_)
    · refine C_vret dX7_writePrint_148 rfl ⟨rfl, ?_⟩
      rw [c_mwritePrintL, if_pos (by omega)]
    · refine C_aload_n dX7_writePrint_20 rfl ?_
      refine C_aload_n dX7_writePrint_21 rfl ?_
      refine C_get (v := .ref 129) dX7_writePrint_22 f_X7_51 (fun h hc => ⟨_, hc.1, rfl⟩) ?_
      refine C_iload_n dX7_writePrint_25 rfl ?_
      refine C_iald (v := vi (mat (σ.2 25) s)) dX7_writePrint_26 (by omega) (by omega) (fun h hc => hc.rd25 hw (by omega) (by omega)) ?_
      have e_26 := hw.a25 s
      refine D_callV (As := [vi _]) (d' := 1) (t_mwriteTag hw (Nat.le_refl _) (by omega) (mok_le (by rw [c_mwritePrintL, if_neg (by omega)]; simp (maxDischargeDepth := 300) only [mle_refl, ↓sl_ite, ↓sl_mwrite, ↓sl_mwriteTag, ↓sl_mwriteComponentL, ↓sl_mwriteComponent, ↓sl_mwriteNumberL, ↓sl_mwriteNumber, ↓sl_mwriteLine, ↓sl_mwriteReportL, ↓sl_mwpK, ↓sl_mwpX, ↓sl_mwritePrintL]) hr)) dX7_writePrint_27 v_X7_281 (fun h hc => ⟨_, hc.1⟩) rfl (Nat.le_of_ble_eq_true rfl) (by omega) (Nat.le_of_ble_eq_true rfl) ?_
      simp only [Option.toList, List.nil_append, List.cons_append]
      have hw2 : wfm (c_mwriteTag σ (mat (σ.2 25) s)) := w_mwriteTag hw (by omega) (mok_le (by rw [c_mwritePrintL, if_neg (by omega)]; simp (maxDischargeDepth := 300) only [mle_refl, ↓sl_ite, ↓sl_mwrite, ↓sl_mwriteTag, ↓sl_mwriteComponentL, ↓sl_mwriteComponent, ↓sl_mwriteNumberL, ↓sl_mwriteNumber, ↓sl_mwriteLine, ↓sl_mwriteReportL, ↓sl_mwpK, ↓sl_mwpX, ↓sl_mwritePrintL]) hr)
      refine C_aload_n dX7_writePrint_30 rfl ?_
      refine C_get (v := .ref 130) dX7_writePrint_31 f_X7_54 (fun h hc => ⟨_, hc.1, rfl⟩) ?_
      refine C_iload_n dX7_writePrint_34 rfl ?_
      refine C_iconst dX7_writePrint_35 ?_
      refine C_iadd dX7_writePrint_36 ?_
      refine C_iald (v := vi (mat (σ.2 26) (s + 1))) dX7_writePrint_37 (by omega) (by omega) (fun h hc => (hc.rd26 hw2 (by omega) (by omega)).imp (fun vs q => ⟨q.1, q.2.trans (congrArg (fun z => some (vi (mat z (s + 1)))) (show (c_mwriteTag σ (mat (σ.2 25) s)).2 26 = σ.2 26 by simp [mfl, mar, upF, g2_mwriteTag]))⟩)) ?_
      have e_37 := hw.a26 (s + 1)
      refine C_istore_n dX7_writePrint_38 (by decide) rfl ?_
      simp only [List.set_cons_zero, List.set_cons_succ, jfin0, jfin1, jfin2, jfin3]
      refine CJ.mono (ls' := [some (.ref 116), some (vi s), some (vi (mat (σ.2 26) (s + 1))), none, none, none]) (lsub_ok (by repeat (first | exact trivial | refine ⟨rfl, ?_⟩))) (fun _ _ q => q) ?_
      refine t_mwpE hw2 hd (by omega) (122) (by omega) (by omega) ?_
      have qr_39 := r_mwpE (s := s) (u := (mat (σ.2 26) (s + 1))) hw2 (by omega) (122) (by omega)
      refine C_aload_n dX7_writePrint_65 rfl ?_
      refine C_get (v := .ref 130) dX7_writePrint_66 f_X7_54 (fun h hc => ⟨_, hc.1, rfl⟩) ?_
      refine C_iload_n dX7_writePrint_69 rfl ?_
      refine C_iald (v := vi (mat (σ.2 26) s)) dX7_writePrint_70 (by omega) (by omega) (fun h hc => (hc.rd26 hw2 (by omega) (by omega)).imp (fun vs q => ⟨q.1, q.2.trans (congrArg (fun z => some (vi (mat z s))) (show (c_mwriteTag σ (mat (σ.2 25) s)).2 26 = σ.2 26 by simp [mfl, mar, upF, g2_mwriteTag]))⟩)) ?_
      have e_70 := hw.a26 s
      refine C_istore_n dX7_writePrint_71 (by decide) rfl ?_
      simp only [List.set_cons_zero, List.set_cons_succ, jfin0, jfin1, jfin2, jfin3]
      refine CJ.mono (ls' := [some (.ref 116), some (vi s), some (vi (c_mwpE s (122) (mat (σ.2 26) (s + 1)) (c_mwriteTag σ (mat (σ.2 25) s)))), some (vi (mat (σ.2 26) s)), none, none]) (lsub_ok (by repeat (first | exact trivial | refine ⟨rfl, ?_⟩))) (fun _ _ q => q) ?_
      refine t_mwpX hw2 hd (by omega) (by omega) (122) (by omega)  (mok_le (by rw [c_mwritePrintL, if_neg (by omega)]; simp (maxDischargeDepth := 300) only [mle_refl, ↓sl_ite, ↓sl_mwrite, ↓sl_mwriteTag, ↓sl_mwriteComponentL, ↓sl_mwriteComponent, ↓sl_mwriteNumberL, ↓sl_mwriteNumber, ↓sl_mwriteLine, ↓sl_mwriteReportL, ↓sl_mwpK, ↓sl_mwpX, ↓sl_mwritePrintL]) hr) (by omega) ?_
      have hw3 : wfm (c_mwpX s (c_mwpE s (122) (mat (σ.2 26) (s + 1)) (c_mwriteTag σ (mat (σ.2 25) s))) (122) (mat (σ.2 26) s) (c_mwriteTag σ (mat (σ.2 25) s))) := w_mwpX (s := s) (u := (c_mwpE s (122) (mat (σ.2 26) (s + 1)) (c_mwriteTag σ (mat (σ.2 25) s)))) (x := (mat (σ.2 26) s)) hw2 (by omega) (by omega) (122) (by omega)  (mok_le (by rw [c_mwritePrintL, if_neg (by omega)]; simp (maxDischargeDepth := 300) only [mle_refl, ↓sl_ite, ↓sl_mwrite, ↓sl_mwriteTag, ↓sl_mwriteComponentL, ↓sl_mwriteComponent, ↓sl_mwriteNumberL, ↓sl_mwriteNumber, ↓sl_mwriteLine, ↓sl_mwriteReportL, ↓sl_mwpK, ↓sl_mwpX, ↓sl_mwritePrintL]) hr)
      refine C_aload_n dX7_writePrint_136 rfl ?_
      refine C_bipush dX7_writePrint_137 (by decide) ?_
      refine D_callV (As := [vi _]) (d' := 0) (t_mwrite hw3 (Nat.le_refl _) (by omega) (mok_le (by rw [c_mwritePrintL, if_neg (by omega)]; simp (maxDischargeDepth := 300) only [mle_refl, ↓sl_ite, ↓sl_mwrite, ↓sl_mwriteTag, ↓sl_mwriteComponentL, ↓sl_mwriteComponent, ↓sl_mwriteNumberL, ↓sl_mwriteNumber, ↓sl_mwriteLine, ↓sl_mwriteReportL, ↓sl_mwpK, ↓sl_mwpX, ↓sl_mwritePrintL]) hr)) dX7_writePrint_139 v_X7_278 (fun h hc => ⟨_, hc.1⟩) rfl (Nat.le_of_ble_eq_true rfl) (by omega) (Nat.le_of_ble_eq_true rfl) ?_
      simp only [Option.toList, List.nil_append, List.cons_append]
      have hw4 : wfm (c_mwrite (c_mwpX s (c_mwpE s (122) (mat (σ.2 26) (s + 1)) (c_mwriteTag σ (mat (σ.2 25) s))) (122) (mat (σ.2 26) s) (c_mwriteTag σ (mat (σ.2 25) s))) 39) := w_mwrite hw3 (by omega) (mok_le (by rw [c_mwritePrintL, if_neg (by omega)]; simp (maxDischargeDepth := 300) only [mle_refl, ↓sl_ite, ↓sl_mwrite, ↓sl_mwriteTag, ↓sl_mwriteComponentL, ↓sl_mwriteComponent, ↓sl_mwriteNumberL, ↓sl_mwriteNumber, ↓sl_mwriteLine, ↓sl_mwriteReportL, ↓sl_mwpK, ↓sl_mwpX, ↓sl_mwritePrintL]) hr)
      refine C_iinc dX7_writePrint_142 rfl (by decide) rfl ?_
      simp only [List.set_cons_zero, List.set_cons_succ]
      refine C_goto (tgt := 12) dX7_writePrint_145 (by decide) ?_
      rw [c_mwritePrintL, if_neg (by omega)]
      refine CJ.mono (ls' := [some (.ref 116), some (vi (s + 1)), none, none, none, none]) (lsub_ok (by repeat (first | exact trivial | refine ⟨rfl, ?_⟩))) (fun _ _ q => q) ?_
      exact ih hw4 (by omega) (by rw [c_mwritePrintL, if_neg (by omega)] at hr; exact hr) (by omega)
theorem t_mwritePrint {l : Launch} {G : jG} {d : Nat} {σ : mS}  (hw : wfm σ) (hd : 2 ≤ d)  (hr : mok (c_mwritePrint σ)) : CJ jMod mown l G (Yx mX7_writePrint) d 0 0 0 [some (.ref 116), none, none, none, none, none] [] σ (det none (c_mwritePrint σ )) := by
  refine C_aload_n dX7_writePrint_0 rfl ?_
  refine C_iconst dX7_writePrint_1 ?_
  refine C_put (σ' := (mfl σ 52 0)) dX7_writePrint_2 f_X7_269 (jfit_zz (by omega)) mown_0 (fun h hc => hc.pf52) ?_
  have hw1 : wfm (mfl σ 52 0) := wfm_f (k := 52) hw (show (0 : Int) ≤ 0 ∧ 0 ≤ 1 by omega)
  refine C_aload_n dX7_writePrint_5 rfl ?_
  refine C_iconst dX7_writePrint_6 ?_
  refine C_put (σ' := (mfl (mfl σ 52 0) 48 0)) dX7_writePrint_7 f_X7_275 jfit_i mown_0 (fun h hc => hc.pf48) ?_
  have hw2 : wfm (mfl (mfl σ 52 0) 48 0) := wfm_f (k := 48) hw1 (show (0 : Int) ≤ 0 ∧ 0 ≤ 1200 by omega)
  refine C_iconst dX7_writePrint_10 ?_
  refine C_istore_n dX7_writePrint_11 (by decide) rfl ?_
  simp only [List.set_cons_zero, List.set_cons_succ, jfin0, jfin1, jfin2, jfin3]
  rw [c_mwritePrint]
  refine CJ.mono (ls' := [some (.ref 116), some (vi 0), none, none, none, none]) (lsub_ok (by repeat (first | exact trivial | refine ⟨rfl, ?_⟩))) (fun _ _ q => q) ?_
  exact t_mwritePrintL hw2 hd  (41) (by omega) (by rw [c_mwritePrint] at hr; exact hr) (by omega)
theorem w_mwritePrintL {σ : mS}  {s : Int} (hw : wfm σ)  (fu : Nat) (hs : 0 ≤ s ∧ s ≤ 40) (hr : mok (c_mwritePrintL fu s σ)) : wfm (c_mwritePrintL  fu s σ) := by
  induction fu generalizing σ s with
  | zero => exact hw
  | succ fu ih =>
    unfold c_mwritePrintL
    split
    · have g_14 := hw.f24
      exact hw
    · have g_14 := hw.f24
      have e_26 := hw.a25 s
      have hw2 : wfm (c_mwriteTag σ (mat (σ.2 25) s)) := w_mwriteTag hw (by omega) (mok_le (by rw [c_mwritePrintL, if_neg (by omega)]; simp (maxDischargeDepth := 300) only [mle_refl, ↓sl_ite, ↓sl_mwrite, ↓sl_mwriteTag, ↓sl_mwriteComponentL, ↓sl_mwriteComponent, ↓sl_mwriteNumberL, ↓sl_mwriteNumber, ↓sl_mwriteLine, ↓sl_mwriteReportL, ↓sl_mwpK, ↓sl_mwpX, ↓sl_mwritePrintL]) hr)
      have e_37 := hw.a26 (s + 1)
      have qr_39 := r_mwpE (s := s) (u := (mat (σ.2 26) (s + 1))) hw2 (by omega) (122) (by omega)
      have e_70 := hw.a26 s
      have hw3 : wfm (c_mwpX s (c_mwpE s (122) (mat (σ.2 26) (s + 1)) (c_mwriteTag σ (mat (σ.2 25) s))) (122) (mat (σ.2 26) s) (c_mwriteTag σ (mat (σ.2 25) s))) := w_mwpX (s := s) (u := (c_mwpE s (122) (mat (σ.2 26) (s + 1)) (c_mwriteTag σ (mat (σ.2 25) s)))) (x := (mat (σ.2 26) s)) hw2 (by omega) (by omega) (122) (by omega)  (mok_le (by rw [c_mwritePrintL, if_neg (by omega)]; simp (maxDischargeDepth := 300) only [mle_refl, ↓sl_ite, ↓sl_mwrite, ↓sl_mwriteTag, ↓sl_mwriteComponentL, ↓sl_mwriteComponent, ↓sl_mwriteNumberL, ↓sl_mwriteNumber, ↓sl_mwriteLine, ↓sl_mwriteReportL, ↓sl_mwpK, ↓sl_mwpX, ↓sl_mwritePrintL]) hr)
      have hw4 : wfm (c_mwrite (c_mwpX s (c_mwpE s (122) (mat (σ.2 26) (s + 1)) (c_mwriteTag σ (mat (σ.2 25) s))) (122) (mat (σ.2 26) s) (c_mwriteTag σ (mat (σ.2 25) s))) 39) := w_mwrite hw3 (by omega) (mok_le (by rw [c_mwritePrintL, if_neg (by omega)]; simp (maxDischargeDepth := 300) only [mle_refl, ↓sl_ite, ↓sl_mwrite, ↓sl_mwriteTag, ↓sl_mwriteComponentL, ↓sl_mwriteComponent, ↓sl_mwriteNumberL, ↓sl_mwriteNumber, ↓sl_mwriteLine, ↓sl_mwriteReportL, ↓sl_mwpK, ↓sl_mwpX, ↓sl_mwritePrintL]) hr)
      exact ih hw4 (by omega) (by rw [c_mwritePrintL, if_neg (by omega)] at hr; exact hr)
theorem w_mwritePrint {σ : mS}  (hw : wfm σ)  (hr : mok (c_mwritePrint σ)) : wfm (c_mwritePrint σ ) := by
  unfold c_mwritePrint
  have hw1 : wfm (mfl σ 52 0) := wfm_f (k := 52) hw (show (0 : Int) ≤ 0 ∧ 0 ≤ 1 by omega)
  have hw2 : wfm (mfl (mfl σ 52 0) 48 0) := wfm_f (k := 48) hw1 (show (0 : Int) ≤ 0 ∧ 0 ≤ 1200 by omega)
  exact w_mwritePrintL hw2  (41) (by omega) (by rw [c_mwritePrint] at hr; exact hr)
