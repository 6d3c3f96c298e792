def c_mreadJ  : Nat → Int → mS → mS
  | 0, _, σ => σ
  | fu + 1, i, σ => (if (σ.1 33) ≤ i then σ else (c_mreadJ  fu (i + 1) (c_mjudge σ i)))
theorem t_mreadJ {l : Launch} {G : jG} {d bc bs : Nat} {P : jO → mS → Prop} {σ : mS}  {i : Int} (hw : wfm σ) (hd : 4 ≤ d)  (fu : Nat) (hi : 0 ≤ i ∧ i ≤ 20) (hT : ∀ t, 0 ≤ t → t ≤ 3 → mT σ t) (hm : 20 - i < (fu : Int)) (kk : CJ jMod mown l G (Yx mX7_read) d bc bs 95 [some (.ref 116), none, none, none] [] (c_mreadJ  fu i σ) P) : CJ jMod mown l G (Yx mX7_read) d bc bs 76 [some (.ref 116), some (vi i), none, none] [] σ P := by
  induction fu generalizing σ i with
  | zero => have m33 := hw.f33; exact absurd hm (by omega)
  | succ fu ih =>
    have m33 := hw.f33
    refine C_iload_n dX7_read_76 rfl ?_
    refine C_aload_n dX7_read_77 rfl ?_
    refine C_get (v := vi (σ.1 33)) dX7_read_78 f_X7_196 (fun h hc => ⟨_, hc.1, rfl⟩) ?_
    have g_78 := hw.f33
    refine C_icmp_ge (tgt := 95) dX7_read_81 (by decide) (by omega) (by omega) (fun c_81 => ?_) (fun c_81 => ?_)
    · rw [c_mreadJ, if_pos (by omega)] at kk
      refine CJ.mono (ls' := [some (.ref 116), none, none, none]) (lsub_ok (by repeat (first | exact trivial | refine ⟨rfl, ?_⟩))) (fun _ _ q => q) ?_
      exact kk
    · refine C_aload_n dX7_read_84 rfl ?_
      refine C_iload_n dX7_read_85 rfl ?_
      refine D_callV (As := [vi _]) (d' := 3) (t_mjudge hw (Nat.le_refl _) (by omega) (by assumption)) dX7_read_86 v_X7_257 (fun h hc => ⟨_, hc.1⟩) rfl (Nat.le_of_ble_eq_true rfl) (by omega) (Nat.le_of_ble_eq_true rfl) ?_
      simp only [Option.toList, List.nil_append, List.cons_append]
      have hw2 : wfm (c_mjudge σ i) := w_mjudge hw (by omega) (by assumption)
      refine C_iinc dX7_read_89 rfl (by decide) rfl ?_
      simp only [List.set_cons_zero, List.set_cons_succ]
      refine C_goto (tgt := 76) dX7_read_92 (by decide) ?_
      rw [c_mreadJ, if_neg (by omega)] at kk
      refine CJ.mono (ls' := [some (.ref 116), some (vi (i + 1)), none, none]) (lsub_ok (by repeat (first | exact trivial | refine ⟨rfl, ?_⟩))) (fun _ _ q => q) ?_
      exact ih hw2 (by omega) (fun t a b => mT_judge (hT t a b)) (by omega) kk
theorem w_mreadJ {σ : mS}  {i : Int} (hw : wfm σ)  (fu : Nat) (hi : 0 ≤ i ∧ i ≤ 20) (hT : ∀ t, 0 ≤ t → t ≤ 3 → mT σ t) : wfm (c_mreadJ  fu i σ) := by
  induction fu generalizing σ i with
  | zero => exact hw
  | succ fu ih =>
    have m33 := hw.f33
    unfold c_mreadJ
    split
    · have g_78 := hw.f33
      exact hw
    · have g_78 := hw.f33
      have hw2 : wfm (c_mjudge σ i) := w_mjudge hw (by omega) (by assumption)
      exact (ih hw2 (by omega) (fun t a b => mT_judge (hT t a b)))
theorem g1_mreadJ  {fu : Nat} {v0 : Int} {σ : mS} {k : Nat} (h : k ∉ ([43, 44, 45] : List Nat)) : (c_mreadJ  fu v0 σ).1 k = σ.1 k := by
  simp only [List.mem_cons, List.not_mem_nil, or_false, not_or] at h
  induction fu generalizing σ v0 with
  | zero => rfl
  | succ fu ih =>
    unfold c_mreadJ
    (repeat' split) <;> simp [mfl, mar, upF, h, ih, g1_mjudge]
theorem g2_mreadJ  {fu : Nat} {v0 : Int} {σ : mS} {k : Nat} (h : k ∉ ([46, 47, 37, 38] : List Nat)) : (c_mreadJ  fu v0 σ).2 k = σ.2 k := by
  simp only [List.mem_cons, List.not_mem_nil, or_false, not_or] at h
  induction fu generalizing σ v0 with
  | zero => rfl
  | succ fu ih =>
    unfold c_mreadJ
    (repeat' split) <;> simp [mfl, mar, upF, h, ih, g2_mjudge]
def c_mreadN  (g : Int) : Nat → Int → Int → mS → Int
  | 0, n, _, _ => n
  | fu + 1, n, i, σ => (if (σ.1 33) ≤ i then n else (if (mat (σ.2 36) i) = g then (c_mreadN g fu (n + 1) (i + 1) σ) else (c_mreadN g fu (n + 0) (i + 1) σ)))
theorem t_mreadN {l : Launch} {G : jG} {d bc bs : Nat} {P : jO → mS → Prop} {σ : mS} {g : Int} {n i : Int} (hw : wfm σ) (hd : 4 ≤ d) (hg : 0 ≤ g ∧ g ≤ 19) (fu : Nat) (hn : 0 ≤ n ∧ n ≤ i) (hi : 0 ≤ i ∧ i ≤ 20) (hm : 20 - i < (fu : Int)) (kk : CJ jMod mown l G (Yx mX7_read) d bc bs 141 [some (.ref 116), some (vi g), some (vi (c_mreadN g fu n i σ)), none] [] σ P) : CJ jMod mown l G (Yx mX7_read) d bc bs 109 [some (.ref 116), some (vi g), some (vi n), some (vi i)] [] σ P := by
  induction fu generalizing σ n i with
  | zero => have m33 := hw.f33; exact absurd hm (by omega)
  | succ fu ih =>
    have m33 := hw.f33
    refine C_iload_n dX7_read_109 rfl ?_
    refine C_aload_n dX7_read_110 rfl ?_
    refine C_get (v := vi (σ.1 33)) dX7_read_111 f_X7_196 (fun h hc => ⟨_, hc.1, rfl⟩) ?_
    have g_111 := hw.f33
    refine C_icmp_ge (tgt := 141) dX7_read_114 (by decide) (by omega) (by omega) (fun c_114 => ?_) (fun c_114 => ?_)
    · rw [c_mreadN, if_pos (by omega)] at kk
      refine CJ.mono (ls' := [some (.ref 116), some (vi g), some (vi n), none]) (lsub_ok (by repeat (first | exact trivial | refine ⟨rfl, ?_⟩))) (fun _ _ q => q) ?_
      exact kk
    · refine C_iload_n dX7_read_117 rfl ?_
      refine C_aload_n dX7_read_118 rfl ?_
      refine C_get (v := .ref 136) dX7_read_119 f_X7_72 (fun h hc => ⟨_, hc.1, rfl⟩) ?_
      refine C_iload_n dX7_read_122 rfl ?_
      refine C_iald (v := vi (mat (σ.2 36) i)) dX7_read_123 (by omega) (by omega) (fun h hc => hc.rd36 hw (by omega) (by omega)) ?_
      have e_123 := hw.a36 i
      refine C_iload_n dX7_read_124 rfl ?_
      refine C_icmp_ne (tgt := 132) dX7_read_125 (by decide) (by omega) (by omega) (fun c_125 => ?_) (fun c_125 => ?_)
      · refine C_iconst dX7_read_132 ?_
        refine C_iadd dX7_read_133 ?_
        refine C_istore_n dX7_read_134 (by decide) rfl ?_
        simp only [List.set_cons_zero, List.set_cons_succ, jfin0, jfin1, jfin2, jfin3]
        refine C_iinc dX7_read_135 rfl (by decide) rfl ?_
        simp only [List.set_cons_zero, List.set_cons_succ]
        refine C_goto (tgt := 109) dX7_read_138 (by decide) ?_
        rw [c_mreadN, if_neg (by omega), if_neg (by omega)] at kk
        refine CJ.mono (ls' := [some (.ref 116), some (vi g), some (vi (n + 0)), some (vi (i + 1))]) (lsub_ok (by repeat (first | exact trivial | refine ⟨rfl, ?_⟩))) (fun _ _ q => q) ?_
        exact ih hw (by omega) (by omega) (by omega) kk
      · refine C_iconst dX7_read_128 ?_
        refine C_goto (tgt := 133) dX7_read_129 (by decide) ?_
        refine C_iadd dX7_read_133 ?_
        refine C_istore_n dX7_read_134 (by decide) rfl ?_
        simp only [List.set_cons_zero, List.set_cons_succ, jfin0, jfin1, jfin2, jfin3]
        refine C_iinc dX7_read_135 rfl (by decide) rfl ?_
        simp only [List.set_cons_zero, List.set_cons_succ]
        refine C_goto (tgt := 109) dX7_read_138 (by decide) ?_
        rw [c_mreadN, if_neg (by omega), if_pos (by omega)] at kk
        refine CJ.mono (ls' := [some (.ref 116), some (vi g), some (vi (n + 1)), some (vi (i + 1))]) (lsub_ok (by repeat (first | exact trivial | refine ⟨rfl, ?_⟩))) (fun _ _ q => q) ?_
        exact ih hw (by omega) (by omega) (by omega) kk
theorem r_mreadN {σ : mS} {g : Int} {n i : Int} (hw : wfm σ) (hg : 0 ≤ g ∧ g ≤ 19) (fu : Nat) (hn : 0 ≤ n ∧ n ≤ i) (hi : 0 ≤ i ∧ i ≤ 20) : 0 ≤ (c_mreadN g fu n i σ) ∧ (c_mreadN g fu n i σ) ≤ 20 := by
  induction fu generalizing σ n i with
  | zero => unfold c_mreadN; omega
  | succ fu ih =>
    have m33 := hw.f33
    unfold c_mreadN
    split
    · have g_111 := hw.f33
      omega
    · split
      · have g_111 := hw.f33
        have e_123 := hw.a36 i
        exact (ih hw (by omega) (by omega))
      · have g_111 := hw.f33
        have e_123 := hw.a36 i
        exact (ih hw (by omega) (by omega))
def c_mreadG  : Nat → Int → mS → mS
  | 0, _, σ => σ
  | fu + 1, g, σ => (if (σ.1 39) ≤ g then σ else (c_mreadG  fu (g + 1) (mar σ 42 g (c_mcheck σ (mat (σ.2 40) g) 0 (mat (σ.2 41) g) (c_mreadN g (21) 0 0 σ)))))
theorem t_mreadG {l : Launch} {G : jG} {d bc bs : Nat} {P : jO → mS → Prop} {σ : mS}  {g : Int} (hw : wfm σ) (hd : 4 ≤ d)  (fu : Nat) (hg : 0 ≤ g ∧ g ≤ 20) (hm : 20 - g < (fu : Int)) (kk : CJ jMod mown l G (Yx mX7_read) d bc bs 171 [some (.ref 116), none, none, none] [] (c_mreadG  fu g σ) P) : CJ jMod mown l G (Yx mX7_read) d bc bs 97 [some (.ref 116), some (vi g), none, none] [] σ P := by
  induction fu generalizing σ g with
  | zero => have m39 := hw.f39; exact absurd hm (by omega)
  | succ fu ih =>
    have m39 := hw.f39
    refine C_iload_n dX7_read_97 rfl ?_
    refine C_aload_n dX7_read_98 rfl ?_
    refine C_get (v := vi (σ.1 39)) dX7_read_99 f_X7_199 (fun h hc => ⟨_, hc.1, rfl⟩) ?_
    have g_99 := hw.f39
    refine C_icmp_ge (tgt := 171) dX7_read_102 (by decide) (by omega) (by omega) (fun c_102 => ?_) (fun c_102 => ?_)
    · rw [c_mreadG, if_pos (by omega)] at kk
      refine CJ.mono (ls' := [some (.ref 116), none, none, none]) (lsub_ok (by repeat (first | exact trivial | refine ⟨rfl, ?_⟩))) (fun _ _ q => q) ?_
      exact kk
    · refine C_iconst dX7_read_105 ?_
      refine C_istore_n dX7_read_106 (by decide) rfl ?_
      simp only [List.set_cons_zero, List.set_cons_succ, jfin0, jfin1, jfin2, jfin3]
      refine C_iconst dX7_read_107 ?_
      refine C_istore_n dX7_read_108 (by decide) rfl ?_
      simp only [List.set_cons_zero, List.set_cons_succ, jfin0, jfin1, jfin2, jfin3]
      refine CJ.mono (ls' := [some (.ref 116), some (vi g), some (vi 0), some (vi 0)]) (lsub_ok (by repeat (first | exact trivial | refine ⟨rfl, ?_⟩))) (fun _ _ q => q) ?_
      refine t_mreadN hw hd (by omega) (21) (by omega) (by omega) (by omega) ?_
      have qr_109 := r_mreadN (g := g) (n := 0) (i := 0) hw (by omega) (21) (by omega) (by omega)
      refine C_aload_n dX7_read_141 rfl ?_
      refine C_get (v := .ref 141) dX7_read_142 f_X7_87 (fun h hc => ⟨_, hc.1, rfl⟩) ?_
      refine C_iload_n dX7_read_145 rfl ?_
      refine C_aload_n dX7_read_146 rfl ?_
      refine C_aload_n dX7_read_147 rfl ?_
      refine C_get (v := .ref 139) dX7_read_148 f_X7_81 (fun h hc => ⟨_, hc.1, rfl⟩) ?_
      refine C_iload_n dX7_read_151 rfl ?_
      refine C_iald (v := vi (mat (σ.2 40) g)) dX7_read_152 (by omega) (by omega) (fun h hc => hc.rd40 hw (by omega) (by omega)) ?_
      have e_152 := hw.a40 g
      refine C_iconst dX7_read_153 ?_
      refine C_aload_n dX7_read_154 rfl ?_
      refine C_get (v := .ref 140) dX7_read_155 f_X7_84 (fun h hc => ⟨_, hc.1, rfl⟩) ?_
      refine C_iload_n dX7_read_158 rfl ?_
      refine C_iald (v := vi (mat (σ.2 41) g)) dX7_read_159 (by omega) (by omega) (fun h hc => hc.rd41 hw (by omega) (by omega)) ?_
      have e_159 := hw.a41 g
      refine C_iload_n dX7_read_160 rfl ?_
      refine D_callV (As := [vi _, vi _, vi _, vi _]) (d' := 2) (t_mcheck hw (Nat.le_refl _) (by omega) (by omega) (by omega) (by omega)) dX7_read_161 v_X7_230 (fun h hc => ⟨_, hc.1⟩) rfl (Nat.le_of_ble_eq_true rfl) (by omega) (Nat.le_of_ble_eq_true rfl) ?_
      simp only [Option.toList, List.nil_append, List.cons_append]
      have r_161 := r_mcheck (s := (mat (σ.2 40) g)) (e := 0) (u := (mat (σ.2 41) g)) (v := (c_mreadN g (21) 0 0 σ)) hw (by omega) (by omega) (by omega) (by omega)
      refine C_iast (σ' := (mar σ 42 g (c_mcheck σ (mat (σ.2 40) g) 0 (mat (σ.2 41) g) (c_mreadN g (21) 0 0 σ)))) dX7_read_164 (by omega) (by omega) mo42 (fun h hc => hc.st42 hw (by omega) (by omega)) ?_
      have hw2 : wfm (mar σ 42 g (c_mcheck σ (mat (σ.2 40) g) 0 (mat (σ.2 41) g) (c_mreadN g (21) 0 0 σ))) := wfm_a (k := 42) hw (show (0 : Int) ≤ (c_mcheck σ (mat (σ.2 40) g) 0 (mat (σ.2 41) g) (c_mreadN g (21) 0 0 σ)) ∧ (c_mcheck σ (mat (σ.2 40) g) 0 (mat (σ.2 41) g) (c_mreadN g (21) 0 0 σ)) ≤ 3 by omega)
      refine C_iinc dX7_read_165 rfl (by decide) rfl ?_
      simp only [List.set_cons_zero, List.set_cons_succ]
      refine C_goto (tgt := 97) dX7_read_168 (by decide) ?_
      rw [c_mreadG, if_neg (by omega)] at kk
      refine CJ.mono (ls' := [some (.ref 116), some (vi (g + 1)), none, none]) (lsub_ok (by repeat (first | exact trivial | refine ⟨rfl, ?_⟩))) (fun _ _ q => q) ?_
      exact ih hw2 (by omega) (by omega) kk
theorem w_mreadG {σ : mS}  {g : Int} (hw : wfm σ)  (fu : Nat) (hg : 0 ≤ g ∧ g ≤ 20) : wfm (c_mreadG  fu g σ) := by
  induction fu generalizing σ g with
  | zero => exact hw
  | succ fu ih =>
    have m39 := hw.f39
    unfold c_mreadG
    split
    · have g_99 := hw.f39
      exact hw
    · have g_99 := hw.f39
      have qr_109 := r_mreadN (g := g) (n := 0) (i := 0) hw (by omega) (21) (by omega) (by omega)
      have e_152 := hw.a40 g
      have e_159 := hw.a41 g
      have r_161 := r_mcheck (s := (mat (σ.2 40) g)) (e := 0) (u := (mat (σ.2 41) g)) (v := (c_mreadN g (21) 0 0 σ)) hw (by omega) (by omega) (by omega) (by omega)
      have hw2 : wfm (mar σ 42 g (c_mcheck σ (mat (σ.2 40) g) 0 (mat (σ.2 41) g) (c_mreadN g (21) 0 0 σ))) := wfm_a (k := 42) hw (show (0 : Int) ≤ (c_mcheck σ (mat (σ.2 40) g) 0 (mat (σ.2 41) g) (c_mreadN g (21) 0 0 σ)) ∧ (c_mcheck σ (mat (σ.2 40) g) 0 (mat (σ.2 41) g) (c_mreadN g (21) 0 0 σ)) ≤ 3 by omega)
      exact (ih hw2 (by omega))
theorem g1_mreadG  {fu : Nat} {v0 : Int} {σ : mS} {k : Nat} (h : k ∉ ([99] : List Nat)) : (c_mreadG  fu v0 σ).1 k = σ.1 k := by
  simp only [List.mem_cons, List.not_mem_nil, or_false, not_or] at h
  induction fu generalizing σ v0 with
  | zero => rfl
  | succ fu ih =>
    unfold c_mreadG
    (repeat' split) <;> simp [mfl, mar, upF, h, ih]
theorem g2_mreadG  {fu : Nat} {v0 : Int} {σ : mS} {k : Nat} (h : k ∉ ([42] : List Nat)) : (c_mreadG  fu v0 σ).2 k = σ.2 k := by
  simp only [List.mem_cons, List.not_mem_nil, or_false, not_or] at h
  induction fu generalizing σ v0 with
  | zero => rfl
  | succ fu ih =>
    unfold c_mreadG
    (repeat' split) <;> simp [mfl, mar, upF, h, ih]
def mreadT (σ : mS) : mS := mfl (c_mreadG  (21) 0 (c_mreadJ  (21) 0 (mfl (mfl (c_mtake (mfl (mfl (mfl (c_mscans (mfl σ 13 (-1)) ).2 0 0) 13 (-1)) 0 0) ) 23 1) 1 0))) 32 (if (c_mreadG  (21) 0 (c_mreadJ  (21) 0 (mfl (mfl (c_mtake (mfl (mfl (mfl (c_mscans (mfl σ 13 (-1)) ).2 0 0) 13 (-1)) 0 0) ) 23 1) 1 0))).1 39 ≤ 0 then c_mcheck (c_mreadG  (21) 0 (c_mreadJ  (21) 0 (mfl (mfl (c_mtake (mfl (mfl (mfl (c_mscans (mfl σ 13 (-1)) ).2 0 0) 13 (-1)) 0 0) ) 23 1) 1 0))) 0 2 ((c_mreadG  (21) 0 (c_mreadJ  (21) 0 (mfl (mfl (c_mtake (mfl (mfl (mfl (c_mscans (mfl σ 13 (-1)) ).2 0 0) 13 (-1)) 0 0) ) 23 1) 1 0))).1 24 - 1) ((c_mreadG  (21) 0 (c_mreadJ  (21) 0 (mfl (mfl (c_mtake (mfl (mfl (mfl (c_mscans (mfl σ 13 (-1)) ).2 0 0) 13 (-1)) 0 0) ) 23 1) 1 0))).1 33) else c_mcheck (c_mreadG  (21) 0 (c_mreadJ  (21) 0 (mfl (mfl (c_mtake (mfl (mfl (mfl (c_mscans (mfl σ 13 (-1)) ).2 0 0) 13 (-1)) 0 0) ) 23 1) 1 0))) 0 2 ((c_mreadG  (21) 0 (c_mreadJ  (21) 0 (mfl (mfl (c_mtake (mfl (mfl (mfl (c_mscans (mfl σ 13 (-1)) ).2 0 0) 13 (-1)) 0 0) ) 23 1) 1 0))).1 24 - 1) ((c_mreadG  (21) 0 (c_mreadJ  (21) 0 (mfl (mfl (c_mtake (mfl (mfl (mfl (c_mscans (mfl σ 13 (-1)) ).2 0 0) 13 (-1)) 0 0) ) 23 1) 1 0))).1 39))
def mreadH (σ : mS) : Prop := (c_mscans (mfl σ 13 (-1)) ).1 = true → (c_mwraps (mfl (mfl (c_mscans (mfl σ 13 (-1)) ).2 0 0) 13 (-1)) ) = true → mok (c_mwritePrint (mreadT σ)) ∧ mok (c_mwriteReport (c_mwritePrint (mreadT σ)))
def c_mread (σ : mS)  : Int × mS := (if (c_mscans (mfl σ 13 (-1)) ).1 = true then (if (c_mwraps (mfl (mfl (c_mscans (mfl σ 13 (-1)) ).2 0 0) 13 (-1)) ) = true then (if ((c_mreadG  (21) 0 (c_mreadJ  (21) 0 (mfl (mfl (c_mtake (mfl (mfl (mfl (c_mscans (mfl σ 13 (-1)) ).2 0 0) 13 (-1)) 0 0) ) 23 1) 1 0))).1 39) ≤ 0 then (((c_mwriteReport (c_mwritePrint (mfl (c_mreadG  (21) 0 (c_mreadJ  (21) 0 (mfl (mfl (c_mtake (mfl (mfl (mfl (c_mscans (mfl σ 13 (-1)) ).2 0 0) 13 (-1)) 0 0) ) 23 1) 1 0))) 32 (c_mcheck (c_mreadG  (21) 0 (c_mreadJ  (21) 0 (mfl (mfl (c_mtake (mfl (mfl (mfl (c_mscans (mfl σ 13 (-1)) ).2 0 0) 13 (-1)) 0 0) ) 23 1) 1 0))) 0 2 (((c_mreadG  (21) 0 (c_mreadJ  (21) 0 (mfl (mfl (c_mtake (mfl (mfl (mfl (c_mscans (mfl σ 13 (-1)) ).2 0 0) 13 (-1)) 0 0) ) 23 1) 1 0))).1 24) - 1) ((c_mreadG  (21) 0 (c_mreadJ  (21) 0 (mfl (mfl (c_mtake (mfl (mfl (mfl (c_mscans (mfl σ 13 (-1)) ).2 0 0) 13 (-1)) 0 0) ) 23 1) 1 0))).1 33))) ) ).1 33), (c_mwriteReport (c_mwritePrint (mfl (c_mreadG  (21) 0 (c_mreadJ  (21) 0 (mfl (mfl (c_mtake (mfl (mfl (mfl (c_mscans (mfl σ 13 (-1)) ).2 0 0) 13 (-1)) 0 0) ) 23 1) 1 0))) 32 (c_mcheck (c_mreadG  (21) 0 (c_mreadJ  (21) 0 (mfl (mfl (c_mtake (mfl (mfl (mfl (c_mscans (mfl σ 13 (-1)) ).2 0 0) 13 (-1)) 0 0) ) 23 1) 1 0))) 0 2 (((c_mreadG  (21) 0 (c_mreadJ  (21) 0 (mfl (mfl (c_mtake (mfl (mfl (mfl (c_mscans (mfl σ 13 (-1)) ).2 0 0) 13 (-1)) 0 0) ) 23 1) 1 0))).1 24) - 1) ((c_mreadG  (21) 0 (c_mreadJ  (21) 0 (mfl (mfl (c_mtake (mfl (mfl (mfl (c_mscans (mfl σ 13 (-1)) ).2 0 0) 13 (-1)) 0 0) ) 23 1) 1 0))).1 33))) ) )) else (((c_mwriteReport (c_mwritePrint (mfl (c_mreadG  (21) 0 (c_mreadJ  (21) 0 (mfl (mfl (c_mtake (mfl (mfl (mfl (c_mscans (mfl σ 13 (-1)) ).2 0 0) 13 (-1)) 0 0) ) 23 1) 1 0))) 32 (c_mcheck (c_mreadG  (21) 0 (c_mreadJ  (21) 0 (mfl (mfl (c_mtake (mfl (mfl (mfl (c_mscans (mfl σ 13 (-1)) ).2 0 0) 13 (-1)) 0 0) ) 23 1) 1 0))) 0 2 (((c_mreadG  (21) 0 (c_mreadJ  (21) 0 (mfl (mfl (c_mtake (mfl (mfl (mfl (c_mscans (mfl σ 13 (-1)) ).2 0 0) 13 (-1)) 0 0) ) 23 1) 1 0))).1 24) - 1) ((c_mreadG  (21) 0 (c_mreadJ  (21) 0 (mfl (mfl (c_mtake (mfl (mfl (mfl (c_mscans (mfl σ 13 (-1)) ).2 0 0) 13 (-1)) 0 0) ) 23 1) 1 0))).1 39))) ) ).1 33), (c_mwriteReport (c_mwritePrint (mfl (c_mreadG  (21) 0 (c_mreadJ  (21) 0 (mfl (mfl (c_mtake (mfl (mfl (mfl (c_mscans (mfl σ 13 (-1)) ).2 0 0) 13 (-1)) 0 0) ) 23 1) 1 0))) 32 (c_mcheck (c_mreadG  (21) 0 (c_mreadJ  (21) 0 (mfl (mfl (c_mtake (mfl (mfl (mfl (c_mscans (mfl σ 13 (-1)) ).2 0 0) 13 (-1)) 0 0) ) 23 1) 1 0))) 0 2 (((c_mreadG  (21) 0 (c_mreadJ  (21) 0 (mfl (mfl (c_mtake (mfl (mfl (mfl (c_mscans (mfl σ 13 (-1)) ).2 0 0) 13 (-1)) 0 0) ) 23 1) 1 0))).1 24) - 1) ((c_mreadG  (21) 0 (c_mreadJ  (21) 0 (mfl (mfl (c_mtake (mfl (mfl (mfl (c_mscans (mfl σ 13 (-1)) ).2 0 0) 13 (-1)) 0 0) ) 23 1) 1 0))).1 39))) ) ))) else (0, (mfl (mfl (mfl (c_mscans (mfl σ 13 (-1)) ).2 0 0) 13 (-1)) 0 2))) else (0, (mfl (c_mscans (mfl σ 13 (-1)) ).2 0 1)))
theorem t_mread {l : Launch} {G : jG} {d : Nat} {σ : mS}  (hw : wfm σ) (hd : 4 ≤ d)  (hT : ∀ t, 0 ≤ t → t ≤ 3 → mT σ t) (hr : mreadH σ) : CJ jMod mown l G (Yx mX7_read) d 0 0 0 [some (.ref 116), none, none, none] [] σ (det (some (vi (c_mread σ ).1)) (c_mread σ ).2) := by
  refine C_aload_n dX7_read_0 rfl ?_
  refine C_iconst dX7_read_1 ?_
  refine C_put (σ' := (mfl σ 13 (-1))) dX7_read_2 f_X7_32 jfit_i mown_0 (fun h hc => hc.pf13) ?_
  have hw1 : wfm (mfl σ 13 (-1)) := wfm_f (k := 13) hw (show (-1 : Int) ≤ (-1) ∧ (-1) ≤ 400 by omega)
  refine C_aload_n dX7_read_5 rfl ?_
  refine C_aload_n dX7_read_6 rfl ?_
  refine D_callV (As := []) (d' := 3) (t_mscans hw1 (Nat.le_refl _) ) dX7_read_7 v_X7_243 (fun h hc => ⟨_, hc.1⟩) rfl (Nat.le_of_ble_eq_true rfl) (by omega) (Nat.le_of_ble_eq_true rfl) ?_
  simp only [Option.toList, List.nil_append, List.cons_append]
  have hw2 : wfm (c_mscans (mfl σ 13 (-1)) ).2 := w_mscans hw1 
  refine C_if_eqZ (tgt := 17) dX7_read_10 (by decide) (fun c_10 => ?_) (fun c_10 => ?_)
  · refine C_iconst dX7_read_17 ?_
    refine C_put (σ' := (mfl (c_mscans (mfl σ 13 (-1)) ).2 0 1)) dX7_read_18 f_X7_102 jfit_i mown_0 (fun h hc => hc.pf0) ?_
    have hw4 : wfm (mfl (c_mscans (mfl σ 13 (-1)) ).2 0 1) := wfm_f (k := 0) hw2 (show (0 : Int) ≤ 1 ∧ 1 ≤ 2 by omega)
    refine C_aload_n dX7_read_21 rfl ?_
    refine C_get (v := vi 1) dX7_read_22 f_X7_102 (fun h hc => ⟨_, hc.1, congrArg (fun z => some (vi z)) (show ((mfl (c_mscans (mfl σ 13 (-1)) ).2 0 1).1 0) = 1 by simp [mfl, mar, upF])⟩) ?_
    refine C_if_le (tgt := 30) dX7_read_25 (by decide) (by omega) (fun c_25 => absurd c_25 (by omega)) (fun c_25 => ?_)
    refine C_iconst dX7_read_28 ?_
    refine C_iret dX7_read_29 rfl ?_
    unfold det; rw [c_mread, if_neg (by rw [c_10]; decide)]; exact ⟨rfl, rfl⟩
  · refine C_iconst dX7_read_13 ?_
    refine C_goto (tgt := 18) dX7_read_14 (by decide) ?_
    refine C_put (σ' := (mfl (c_mscans (mfl σ 13 (-1)) ).2 0 0)) dX7_read_18 f_X7_102 jfit_i mown_0 (fun h hc => hc.pf0) ?_
    have hw6 : wfm (mfl (c_mscans (mfl σ 13 (-1)) ).2 0 0) := wfm_f (k := 0) hw2 (show (0 : Int) ≤ 0 ∧ 0 ≤ 2 by omega)
    refine C_aload_n dX7_read_21 rfl ?_
    refine C_get (v := vi 0) dX7_read_22 f_X7_102 (fun h hc => ⟨_, hc.1, congrArg (fun z => some (vi z)) (show ((mfl (c_mscans (mfl σ 13 (-1)) ).2 0 0).1 0) = 0 by simp [mfl, mar, upF])⟩) ?_
    refine C_if_le (tgt := 30) dX7_read_25 (by decide) (by omega) (fun c_25 => ?_) (fun c_25 => absurd c_25 (by omega))
    refine C_aload_n dX7_read_30 rfl ?_
    refine C_iconst dX7_read_31 ?_
    refine C_put (σ' := (mfl (mfl (c_mscans (mfl σ 13 (-1)) ).2 0 0) 13 (-1))) dX7_read_32 f_X7_32 jfit_i mown_0 (fun h hc => hc.pf13) ?_
    have hw8 : wfm (mfl (mfl (c_mscans (mfl σ 13 (-1)) ).2 0 0) 13 (-1)) := wfm_f (k := 13) hw6 (show (-1 : Int) ≤ (-1) ∧ (-1) ≤ 400 by omega)
    refine C_aload_n dX7_read_35 rfl ?_
    refine C_aload_n dX7_read_36 rfl ?_
    refine D_callV (As := []) (d' := 1) (t_mwraps hw8 (Nat.le_refl _) ) dX7_read_37 v_X7_247 (fun h hc => ⟨_, hc.1⟩) rfl (Nat.le_of_ble_eq_true rfl) (by omega) (Nat.le_of_ble_eq_true rfl) ?_
    simp only [Option.toList, List.nil_append, List.cons_append]
    refine C_if_eqZ (tgt := 47) dX7_read_40 (by decide) (fun c_40 => ?_) (fun c_40 => ?_)
    · refine C_iconst dX7_read_47 ?_
      refine C_put (σ' := (mfl (mfl (mfl (c_mscans (mfl σ 13 (-1)) ).2 0 0) 13 (-1)) 0 2)) dX7_read_48 f_X7_102 jfit_i mown_0 (fun h hc => hc.pf0) ?_
      have hw10 : wfm (mfl (mfl (mfl (c_mscans (mfl σ 13 (-1)) ).2 0 0) 13 (-1)) 0 2) := wfm_f (k := 0) hw8 (show (0 : Int) ≤ 2 ∧ 2 ≤ 2 by omega)
      refine C_aload_n dX7_read_51 rfl ?_
      refine C_get (v := vi 2) dX7_read_52 f_X7_102 (fun h hc => ⟨_, hc.1, congrArg (fun z => some (vi z)) (show ((mfl (mfl (mfl (c_mscans (mfl σ 13 (-1)) ).2 0 0) 13 (-1)) 0 2).1 0) = 2 by simp [mfl, mar, upF])⟩) ?_
      refine C_if_le (tgt := 60) dX7_read_55 (by decide) (by omega) (fun c_55 => absurd c_55 (by omega)) (fun c_55 => ?_)
      refine C_iconst dX7_read_58 ?_
      refine C_iret dX7_read_59 rfl ?_
      unfold det; rw [c_mread, if_pos c_10, if_neg (by rw [c_40]; decide)]; exact ⟨rfl, rfl⟩
    · refine C_iconst dX7_read_43 ?_
      refine C_goto (tgt := 48) dX7_read_44 (by decide) ?_
      refine C_put (σ' := (mfl (mfl (mfl (c_mscans (mfl σ 13 (-1)) ).2 0 0) 13 (-1)) 0 0)) dX7_read_48 f_X7_102 jfit_i mown_0 (fun h hc => hc.pf0) ?_
      have hw12 : wfm (mfl (mfl (mfl (c_mscans (mfl σ 13 (-1)) ).2 0 0) 13 (-1)) 0 0) := wfm_f (k := 0) hw8 (show (0 : Int) ≤ 0 ∧ 0 ≤ 2 by omega)
      refine C_aload_n dX7_read_51 rfl ?_
      refine C_get (v := vi 0) dX7_read_52 f_X7_102 (fun h hc => ⟨_, hc.1, congrArg (fun z => some (vi z)) (show ((mfl (mfl (mfl (c_mscans (mfl σ 13 (-1)) ).2 0 0) 13 (-1)) 0 0).1 0) = 0 by simp [mfl, mar, upF])⟩) ?_
      refine C_if_le (tgt := 60) dX7_read_55 (by decide) (by omega) (fun c_55 => ?_) (fun c_55 => absurd c_55 (by omega))
      have hTs : ∀ t, 0 ≤ t → t ≤ 3 → mT (mfl (mfl (mfl (c_mscans (mfl σ 13 (-1)) ).2 0 0) 13 (-1)) 0 0) t := fun t a b => mT_congr (g2_mscans (by decide)) (g2_mscans (by decide)) (g2_mscans (by decide)) (hT t a b)
      have hn4 : 4 ≤ (mfl (mfl (mfl (c_mscans (mfl σ 13 (-1)) ).2 0 0) 13 (-1)) 0 0).1 14 := wraps_n (σ := (mfl (mfl (c_mscans (mfl σ 13 (-1)) ).2 0 0) 13 (-1))) (by assumption)
      have htk : tOK ((mfl (mfl (mfl (c_mscans (mfl σ 13 (-1)) ).2 0 0) 13 (-1)) 0 0).2 15) 41 ((mfl (mfl (mfl (c_mscans (mfl σ 13 (-1)) ).2 0 0) 13 (-1)) 0 0).1 14) 1 0 0 := wraps_t (σ := (mfl (mfl (c_mscans (mfl σ 13 (-1)) ).2 0 0) 13 (-1))) (by assumption) (by assumption)
      refine C_aload_n dX7_read_60 rfl ?_
      refine D_callV (As := []) (d' := 0) (t_mtake hw12 (Nat.le_refl _)  (by assumption)) dX7_read_61 v_X7_250 (fun h hc => ⟨_, hc.1⟩) rfl (Nat.le_of_ble_eq_true rfl) (by omega) (Nat.le_of_ble_eq_true rfl) ?_
      simp only [Option.toList, List.nil_append, List.cons_append]
      have hw14 : wfm (c_mtake (mfl (mfl (mfl (c_mscans (mfl σ 13 (-1)) ).2 0 0) 13 (-1)) 0 0) ) := w_mtake hw12  (by assumption)
      refine C_aload_n dX7_read_64 rfl ?_
      refine C_iconst dX7_read_65 ?_
      refine C_put (σ' := (mfl (c_mtake (mfl (mfl (mfl (c_mscans (mfl σ 13 (-1)) ).2 0 0) 13 (-1)) 0 0) ) 23 1)) dX7_read_66 f_X7_253 (jfit_zz (by omega)) mown_0 (fun h hc => hc.pf23) ?_
      have hw15 : wfm (mfl (c_mtake (mfl (mfl (mfl (c_mscans (mfl σ 13 (-1)) ).2 0 0) 13 (-1)) 0 0) ) 23 1) := wfm_f (k := 23) hw14 (show (0 : Int) ≤ 1 ∧ 1 ≤ 1 by omega)
      refine C_aload_n dX7_read_69 rfl ?_
      refine C_iconst dX7_read_70 ?_
      refine C_put (σ' := (mfl (mfl (c_mtake (mfl (mfl (mfl (c_mscans (mfl σ 13 (-1)) ).2 0 0) 13 (-1)) 0 0) ) 23 1) 1 0)) dX7_read_71 f_X7_105 jfit_i mown_0 (fun h hc => hc.pf1) ?_
      have hw16 : wfm (mfl (mfl (c_mtake (mfl (mfl (mfl (c_mscans (mfl σ 13 (-1)) ).2 0 0) 13 (-1)) 0 0) ) 23 1) 1 0) := wfm_f (k := 1) hw15 (show (0 : Int) ≤ 0 ∧ 0 ≤ 400 by omega)
      refine C_iconst dX7_read_74 ?_
      refine C_istore_n dX7_read_75 (by decide) rfl ?_
      simp only [List.set_cons_zero, List.set_cons_succ, jfin0, jfin1, jfin2, jfin3]
      refine CJ.mono (ls' := [some (.ref 116), some (vi 0), none, none]) (lsub_ok (by repeat (first | exact trivial | refine ⟨rfl, ?_⟩))) (fun _ _ q => q) ?_
      refine t_mreadJ hw16 hd  (21) (by omega) (fun t a b => mT_take (hTs t a b)) (by omega) ?_
      have hw17 : wfm (c_mreadJ  (21) 0 (mfl (mfl (c_mtake (mfl (mfl (mfl (c_mscans (mfl σ 13 (-1)) ).2 0 0) 13 (-1)) 0 0) ) 23 1) 1 0)) := w_mreadJ (i := 0) hw16  (21) (by omega) (fun t a b => mT_take (hTs t a b))
      refine C_iconst dX7_read_95 ?_
      refine C_istore_n dX7_read_96 (by decide) rfl ?_
      simp only [List.set_cons_zero, List.set_cons_succ, jfin0, jfin1, jfin2, jfin3]
      refine CJ.mono (ls' := [some (.ref 116), some (vi 0), none, none]) (lsub_ok (by repeat (first | exact trivial | refine ⟨rfl, ?_⟩))) (fun _ _ q => q) ?_
      refine t_mreadG hw17 hd  (21) (by omega) (by omega) ?_
      have hw18 : wfm (c_mreadG  (21) 0 (c_mreadJ  (21) 0 (mfl (mfl (c_mtake (mfl (mfl (mfl (c_mscans (mfl σ 13 (-1)) ).2 0 0) 13 (-1)) 0 0) ) 23 1) 1 0))) := w_mreadG (g := 0) hw17  (21) (by omega)
      have h24 : (c_mreadG  (21) 0 (c_mreadJ  (21) 0 (mfl (mfl (c_mtake (mfl (mfl (mfl (c_mscans (mfl σ 13 (-1)) ).2 0 0) 13 (-1)) 0 0) ) 23 1) 1 0))).1 24 = (mfl (mfl (mfl (c_mscans (mfl σ 13 (-1)) ).2 0 0) 13 (-1)) 0 0).1 14 := by rw [g1_mreadG (by decide), g1_mreadJ (by decide)]; exact take_24
      refine C_aload_n dX7_read_171 rfl ?_
      refine C_aload_n dX7_read_172 rfl ?_
      refine C_iconst dX7_read_173 ?_
      refine C_iconst dX7_read_174 ?_
      refine C_aload_n dX7_read_175 rfl ?_
      refine C_get (v := vi ((c_mreadG  (21) 0 (c_mreadJ  (21) 0 (mfl (mfl (c_mtake (mfl (mfl (mfl (c_mscans (mfl σ 13 (-1)) ).2 0 0) 13 (-1)) 0 0) ) 23 1) 1 0))).1 24)) dX7_read_176 f_X7_187 (fun h hc => ⟨_, hc.1, rfl⟩) ?_
      have g_176 := hw18.f24
      refine C_iconst dX7_read_179 ?_
      refine C_isub dX7_read_180 ?_
      refine C_aload_n dX7_read_181 rfl ?_
      refine C_get (v := vi ((c_mreadG  (21) 0 (c_mreadJ  (21) 0 (mfl (mfl (c_mtake (mfl (mfl (mfl (c_mscans (mfl σ 13 (-1)) ).2 0 0) 13 (-1)) 0 0) ) 23 1) 1 0))).1 39)) dX7_read_182 f_X7_199 (fun h hc => ⟨_, hc.1, rfl⟩) ?_
      have g_182 := hw18.f39
      refine C_if_le (tgt := 195) dX7_read_185 (by decide) (by omega) (fun c_185 => ?_) (fun c_185 => ?_)
      · refine C_aload_n dX7_read_195 rfl ?_
        refine C_get (v := vi ((c_mreadG  (21) 0 (c_mreadJ  (21) 0 (mfl (mfl (c_mtake (mfl (mfl (mfl (c_mscans (mfl σ 13 (-1)) ).2 0 0) 13 (-1)) 0 0) ) 23 1) 1 0))).1 33)) dX7_read_196 f_X7_196 (fun h hc => ⟨_, hc.1, rfl⟩) ?_
        have g_196 := hw18.f33
        refine D_callV (As := [vi _, vi _, vi _, vi _]) (d' := 2) (t_mcheck hw18 (Nat.le_refl _) (by omega) (by omega) (by omega) (by omega)) dX7_read_199 v_X7_230 (fun h hc => ⟨_, hc.1⟩) rfl (Nat.le_of_ble_eq_true rfl) (by omega) (Nat.le_of_ble_eq_true rfl) ?_
        simp only [Option.toList, List.nil_append, List.cons_append]
        have r_199 := r_mcheck (s := 0) (e := 2) (u := (((c_mreadG  (21) 0 (c_mreadJ  (21) 0 (mfl (mfl (c_mtake (mfl (mfl (mfl (c_mscans (mfl σ 13 (-1)) ).2 0 0) 13 (-1)) 0 0) ) 23 1) 1 0))).1 24) - 1)) (v := ((c_mreadG  (21) 0 (c_mreadJ  (21) 0 (mfl (mfl (c_mtake (mfl (mfl (mfl (c_mscans (mfl σ 13 (-1)) ).2 0 0) 13 (-1)) 0 0) ) 23 1) 1 0))).1 33)) hw18 (by omega) (by omega) (by omega) (by omega)
        refine C_put (σ' := (mfl (c_mreadG  (21) 0 (c_mreadJ  (21) 0 (mfl (mfl (c_mtake (mfl (mfl (mfl (c_mscans (mfl σ 13 (-1)) ).2 0 0) 13 (-1)) 0 0) ) 23 1) 1 0))) 32 (c_mcheck (c_mreadG  (21) 0 (c_mreadJ  (21) 0 (mfl (mfl (c_mtake (mfl (mfl (mfl (c_mscans (mfl σ 13 (-1)) ).2 0 0) 13 (-1)) 0 0) ) 23 1) 1 0))) 0 2 (((c_mreadG  (21) 0 (c_mreadJ  (21) 0 (mfl (mfl (c_mtake (mfl (mfl (mfl (c_mscans (mfl σ 13 (-1)) ).2 0 0) 13 (-1)) 0 0) ) 23 1) 1 0))).1 24) - 1) ((c_mreadG  (21) 0 (c_mreadJ  (21) 0 (mfl (mfl (c_mtake (mfl (mfl (mfl (c_mscans (mfl σ 13 (-1)) ).2 0 0) 13 (-1)) 0 0) ) 23 1) 1 0))).1 33)))) dX7_read_202 f_X7_260 jfit_i mown_0 (fun h hc => hc.pf32) ?_
        have hw20 : wfm (mfl (c_mreadG  (21) 0 (c_mreadJ  (21) 0 (mfl (mfl (c_mtake (mfl (mfl (mfl (c_mscans (mfl σ 13 (-1)) ).2 0 0) 13 (-1)) 0 0) ) 23 1) 1 0))) 32 (c_mcheck (c_mreadG  (21) 0 (c_mreadJ  (21) 0 (mfl (mfl (c_mtake (mfl (mfl (mfl (c_mscans (mfl σ 13 (-1)) ).2 0 0) 13 (-1)) 0 0) ) 23 1) 1 0))) 0 2 (((c_mreadG  (21) 0 (c_mreadJ  (21) 0 (mfl (mfl (c_mtake (mfl (mfl (mfl (c_mscans (mfl σ 13 (-1)) ).2 0 0) 13 (-1)) 0 0) ) 23 1) 1 0))).1 24) - 1) ((c_mreadG  (21) 0 (c_mreadJ  (21) 0 (mfl (mfl (c_mtake (mfl (mfl (mfl (c_mscans (mfl σ 13 (-1)) ).2 0 0) 13 (-1)) 0 0) ) 23 1) 1 0))).1 33))) := wfm_f (k := 32) hw18 (show (0 : Int) ≤ (c_mcheck (c_mreadG  (21) 0 (c_mreadJ  (21) 0 (mfl (mfl (c_mtake (mfl (mfl (mfl (c_mscans (mfl σ 13 (-1)) ).2 0 0) 13 (-1)) 0 0) ) 23 1) 1 0))) 0 2 (((c_mreadG  (21) 0 (c_mreadJ  (21) 0 (mfl (mfl (c_mtake (mfl (mfl (mfl (c_mscans (mfl σ 13 (-1)) ).2 0 0) 13 (-1)) 0 0) ) 23 1) 1 0))).1 24) - 1) ((c_mreadG  (21) 0 (c_mreadJ  (21) 0 (mfl (mfl (c_mtake (mfl (mfl (mfl (c_mscans (mfl σ 13 (-1)) ).2 0 0) 13 (-1)) 0 0) ) 23 1) 1 0))).1 33)) ∧ (c_mcheck (c_mreadG  (21) 0 (c_mreadJ  (21) 0 (mfl (mfl (c_mtake (mfl (mfl (mfl (c_mscans (mfl σ 13 (-1)) ).2 0 0) 13 (-1)) 0 0) ) 23 1) 1 0))) 0 2 (((c_mreadG  (21) 0 (c_mreadJ  (21) 0 (mfl (mfl (c_mtake (mfl (mfl (mfl (c_mscans (mfl σ 13 (-1)) ).2 0 0) 13 (-1)) 0 0) ) 23 1) 1 0))).1 24) - 1) ((c_mreadG  (21) 0 (c_mreadJ  (21) 0 (mfl (mfl (c_mtake (mfl (mfl (mfl (c_mscans (mfl σ 13 (-1)) ).2 0 0) 13 (-1)) 0 0) ) 23 1) 1 0))).1 33)) ≤ 3 by omega)
        refine C_aload_n dX7_read_205 rfl ?_
        have hp1 : mok (c_mwritePrint (mfl (c_mreadG  (21) 0 (c_mreadJ  (21) 0 (mfl (mfl (c_mtake (mfl (mfl (mfl (c_mscans (mfl σ 13 (-1)) ).2 0 0) 13 (-1)) 0 0) ) 23 1) 1 0))) 32 (c_mcheck (c_mreadG  (21) 0 (c_mreadJ  (21) 0 (mfl (mfl (c_mtake (mfl (mfl (mfl (c_mscans (mfl σ 13 (-1)) ).2 0 0) 13 (-1)) 0 0) ) 23 1) 1 0))) 0 2 (((c_mreadG  (21) 0 (c_mreadJ  (21) 0 (mfl (mfl (c_mtake (mfl (mfl (mfl (c_mscans (mfl σ 13 (-1)) ).2 0 0) 13 (-1)) 0 0) ) 23 1) 1 0))).1 24) - 1) ((c_mreadG  (21) 0 (c_mreadJ  (21) 0 (mfl (mfl (c_mtake (mfl (mfl (mfl (c_mscans (mfl σ 13 (-1)) ).2 0 0) 13 (-1)) 0 0) ) 23 1) 1 0))).1 33)))) := by have h := (hr (by assumption) (by assumption)).1; unfold mreadT at h; first | (rw [if_pos (by omega)] at h; exact h) | (rw [if_neg (by omega)] at h; exact h)
        have hp2 : mok (c_mwriteReport (c_mwritePrint (mfl (c_mreadG  (21) 0 (c_mreadJ  (21) 0 (mfl (mfl (c_mtake (mfl (mfl (mfl (c_mscans (mfl σ 13 (-1)) ).2 0 0) 13 (-1)) 0 0) ) 23 1) 1 0))) 32 (c_mcheck (c_mreadG  (21) 0 (c_mreadJ  (21) 0 (mfl (mfl (c_mtake (mfl (mfl (mfl (c_mscans (mfl σ 13 (-1)) ).2 0 0) 13 (-1)) 0 0) ) 23 1) 1 0))) 0 2 (((c_mreadG  (21) 0 (c_mreadJ  (21) 0 (mfl (mfl (c_mtake (mfl (mfl (mfl (c_mscans (mfl σ 13 (-1)) ).2 0 0) 13 (-1)) 0 0) ) 23 1) 1 0))).1 24) - 1) ((c_mreadG  (21) 0 (c_mreadJ  (21) 0 (mfl (mfl (c_mtake (mfl (mfl (mfl (c_mscans (mfl σ 13 (-1)) ).2 0 0) 13 (-1)) 0 0) ) 23 1) 1 0))).1 33))))) := by have h := (hr (by assumption) (by assumption)).2; unfold mreadT at h; first | (rw [if_pos (by omega)] at h; exact h) | (rw [if_neg (by omega)] at h; exact h)
        refine D_callV (As := []) (d' := 2) (t_mwritePrint hw20 (Nat.le_refl _)  (by assumption)) dX7_read_206 v_X7_263 (fun h hc => ⟨_, hc.1⟩) rfl (Nat.le_of_ble_eq_true rfl) (by omega) (Nat.le_of_ble_eq_true rfl) ?_
        simp only [Option.toList, List.nil_append, List.cons_append]
        have hw21 : wfm (c_mwritePrint (mfl (c_mreadG  (21) 0 (c_mreadJ  (21) 0 (mfl (mfl (c_mtake (mfl (mfl (mfl (c_mscans (mfl σ 13 (-1)) ).2 0 0) 13 (-1)) 0 0) ) 23 1) 1 0))) 32 (c_mcheck (c_mreadG  (21) 0 (c_mreadJ  (21) 0 (mfl (mfl (c_mtake (mfl (mfl (mfl (c_mscans (mfl σ 13 (-1)) ).2 0 0) 13 (-1)) 0 0) ) 23 1) 1 0))) 0 2 (((c_mreadG  (21) 0 (c_mreadJ  (21) 0 (mfl (mfl (c_mtake (mfl (mfl (mfl (c_mscans (mfl σ 13 (-1)) ).2 0 0) 13 (-1)) 0 0) ) 23 1) 1 0))).1 24) - 1) ((c_mreadG  (21) 0 (c_mreadJ  (21) 0 (mfl (mfl (c_mtake (mfl (mfl (mfl (c_mscans (mfl σ 13 (-1)) ).2 0 0) 13 (-1)) 0 0) ) 23 1) 1 0))).1 33))) ) := w_mwritePrint hw20  (by assumption)
        refine C_aload_n dX7_read_209 rfl ?_
        refine D_callV (As := []) (d' := 3) (t_mwriteReport hw21 (Nat.le_refl _)  (by assumption)) dX7_read_210 v_X7_266 (fun h hc => ⟨_, hc.1⟩) rfl (Nat.le_of_ble_eq_true rfl) (by omega) (Nat.le_of_ble_eq_true rfl) ?_
        simp only [Option.toList, List.nil_append, List.cons_append]
        have hw22 : wfm (c_mwriteReport (c_mwritePrint (mfl (c_mreadG  (21) 0 (c_mreadJ  (21) 0 (mfl (mfl (c_mtake (mfl (mfl (mfl (c_mscans (mfl σ 13 (-1)) ).2 0 0) 13 (-1)) 0 0) ) 23 1) 1 0))) 32 (c_mcheck (c_mreadG  (21) 0 (c_mreadJ  (21) 0 (mfl (mfl (c_mtake (mfl (mfl (mfl (c_mscans (mfl σ 13 (-1)) ).2 0 0) 13 (-1)) 0 0) ) 23 1) 1 0))) 0 2 (((c_mreadG  (21) 0 (c_mreadJ  (21) 0 (mfl (mfl (c_mtake (mfl (mfl (mfl (c_mscans (mfl σ 13 (-1)) ).2 0 0) 13 (-1)) 0 0) ) 23 1) 1 0))).1 24) - 1) ((c_mreadG  (21) 0 (c_mreadJ  (21) 0 (mfl (mfl (c_mtake (mfl (mfl (mfl (c_mscans (mfl σ 13 (-1)) ).2 0 0) 13 (-1)) 0 0) ) 23 1) 1 0))).1 33))) ) ) := w_mwriteReport hw21  (by assumption)
        refine C_aload_n dX7_read_213 rfl ?_
        refine C_get (v := vi ((c_mwriteReport (c_mwritePrint (mfl (c_mreadG  (21) 0 (c_mreadJ  (21) 0 (mfl (mfl (c_mtake (mfl (mfl (mfl (c_mscans (mfl σ 13 (-1)) ).2 0 0) 13 (-1)) 0 0) ) 23 1) 1 0))) 32 (c_mcheck (c_mreadG  (21) 0 (c_mreadJ  (21) 0 (mfl (mfl (c_mtake (mfl (mfl (mfl (c_mscans (mfl σ 13 (-1)) ).2 0 0) 13 (-1)) 0 0) ) 23 1) 1 0))) 0 2 (((c_mreadG  (21) 0 (c_mreadJ  (21) 0 (mfl (mfl (c_mtake (mfl (mfl (mfl (c_mscans (mfl σ 13 (-1)) ).2 0 0) 13 (-1)) 0 0) ) 23 1) 1 0))).1 24) - 1) ((c_mreadG  (21) 0 (c_mreadJ  (21) 0 (mfl (mfl (c_mtake (mfl (mfl (mfl (c_mscans (mfl σ 13 (-1)) ).2 0 0) 13 (-1)) 0 0) ) 23 1) 1 0))).1 33))) ) ).1 33)) dX7_read_214 f_X7_196 (fun h hc => ⟨_, hc.1, rfl⟩) ?_
        have g_214 := hw22.f33
        refine C_iret dX7_read_217 rfl ?_
        unfold det; rw [c_mread, if_pos c_10, if_pos c_40, if_pos (by omega)]; exact ⟨rfl, rfl⟩
      · refine C_aload_n dX7_read_188 rfl ?_
        refine C_get (v := vi ((c_mreadG  (21) 0 (c_mreadJ  (21) 0 (mfl (mfl (c_mtake (mfl (mfl (mfl (c_mscans (mfl σ 13 (-1)) ).2 0 0) 13 (-1)) 0 0) ) 23 1) 1 0))).1 39)) dX7_read_189 f_X7_199 (fun h hc => ⟨_, hc.1, rfl⟩) ?_
        have g_189 := hw18.f39
        refine C_goto (tgt := 199) dX7_read_192 (by decide) ?_
        refine D_callV (As := [vi _, vi _, vi _, vi _]) (d' := 2) (t_mcheck hw18 (Nat.le_refl _) (by omega) (by omega) (by omega) (by omega)) dX7_read_199 v_X7_230 (fun h hc => ⟨_, hc.1⟩) rfl (Nat.le_of_ble_eq_true rfl) (by omega) (Nat.le_of_ble_eq_true rfl) ?_
        simp only [Option.toList, List.nil_append, List.cons_append]
        have r_199 := r_mcheck (s := 0) (e := 2) (u := (((c_mreadG  (21) 0 (c_mreadJ  (21) 0 (mfl (mfl (c_mtake (mfl (mfl (mfl (c_mscans (mfl σ 13 (-1)) ).2 0 0) 13 (-1)) 0 0) ) 23 1) 1 0))).1 24) - 1)) (v := ((c_mreadG  (21) 0 (c_mreadJ  (21) 0 (mfl (mfl (c_mtake (mfl (mfl (mfl (c_mscans (mfl σ 13 (-1)) ).2 0 0) 13 (-1)) 0 0) ) 23 1) 1 0))).1 39)) hw18 (by omega) (by omega) (by omega) (by omega)
        refine C_put (σ' := (mfl (c_mreadG  (21) 0 (c_mreadJ  (21) 0 (mfl (mfl (c_mtake (mfl (mfl (mfl (c_mscans (mfl σ 13 (-1)) ).2 0 0) 13 (-1)) 0 0) ) 23 1) 1 0))) 32 (c_mcheck (c_mreadG  (21) 0 (c_mreadJ  (21) 0 (mfl (mfl (c_mtake (mfl (mfl (mfl (c_mscans (mfl σ 13 (-1)) ).2 0 0) 13 (-1)) 0 0) ) 23 1) 1 0))) 0 2 (((c_mreadG  (21) 0 (c_mreadJ  (21) 0 (mfl (mfl (c_mtake (mfl (mfl (mfl (c_mscans (mfl σ 13 (-1)) ).2 0 0) 13 (-1)) 0 0) ) 23 1) 1 0))).1 24) - 1) ((c_mreadG  (21) 0 (c_mreadJ  (21) 0 (mfl (mfl (c_mtake (mfl (mfl (mfl (c_mscans (mfl σ 13 (-1)) ).2 0 0) 13 (-1)) 0 0) ) 23 1) 1 0))).1 39)))) dX7_read_202 f_X7_260 jfit_i mown_0 (fun h hc => hc.pf32) ?_
        have hw23 : wfm (mfl (c_mreadG  (21) 0 (c_mreadJ  (21) 0 (mfl (mfl (c_mtake (mfl (mfl (mfl (c_mscans (mfl σ 13 (-1)) ).2 0 0) 13 (-1)) 0 0) ) 23 1) 1 0))) 32 (c_mcheck (c_mreadG  (21) 0 (c_mreadJ  (21) 0 (mfl (mfl (c_mtake (mfl (mfl (mfl (c_mscans (mfl σ 13 (-1)) ).2 0 0) 13 (-1)) 0 0) ) 23 1) 1 0))) 0 2 (((c_mreadG  (21) 0 (c_mreadJ  (21) 0 (mfl (mfl (c_mtake (mfl (mfl (mfl (c_mscans (mfl σ 13 (-1)) ).2 0 0) 13 (-1)) 0 0) ) 23 1) 1 0))).1 24) - 1) ((c_mreadG  (21) 0 (c_mreadJ  (21) 0 (mfl (mfl (c_mtake (mfl (mfl (mfl (c_mscans (mfl σ 13 (-1)) ).2 0 0) 13 (-1)) 0 0) ) 23 1) 1 0))).1 39))) := wfm_f (k := 32) hw18 (show (0 : Int) ≤ (c_mcheck (c_mreadG  (21) 0 (c_mreadJ  (21) 0 (mfl (mfl (c_mtake (mfl (mfl (mfl (c_mscans (mfl σ 13 (-1)) ).2 0 0) 13 (-1)) 0 0) ) 23 1) 1 0))) 0 2 (((c_mreadG  (21) 0 (c_mreadJ  (21) 0 (mfl (mfl (c_mtake (mfl (mfl (mfl (c_mscans (mfl σ 13 (-1)) ).2 0 0) 13 (-1)) 0 0) ) 23 1) 1 0))).1 24) - 1) ((c_mreadG  (21) 0 (c_mreadJ  (21) 0 (mfl (mfl (c_mtake (mfl (mfl (mfl (c_mscans (mfl σ 13 (-1)) ).2 0 0) 13 (-1)) 0 0) ) 23 1) 1 0))).1 39)) ∧ (c_mcheck (c_mreadG  (21) 0 (c_mreadJ  (21) 0 (mfl (mfl (c_mtake (mfl (mfl (mfl (c_mscans (mfl σ 13 (-1)) ).2 0 0) 13 (-1)) 0 0) ) 23 1) 1 0))) 0 2 (((c_mreadG  (21) 0 (c_mreadJ  (21) 0 (mfl (mfl (c_mtake (mfl (mfl (mfl (c_mscans (mfl σ 13 (-1)) ).2 0 0) 13 (-1)) 0 0) ) 23 1) 1 0))).1 24) - 1) ((c_mreadG  (21) 0 (c_mreadJ  (21) 0 (mfl (mfl (c_mtake (mfl (mfl (mfl (c_mscans (mfl σ 13 (-1)) ).2 0 0) 13 (-1)) 0 0) ) 23 1) 1 0))).1 39)) ≤ 3 by omega)
        refine C_aload_n dX7_read_205 rfl ?_
        have hp1 : mok (c_mwritePrint (mfl (c_mreadG  (21) 0 (c_mreadJ  (21) 0 (mfl (mfl (c_mtake (mfl (mfl (mfl (c_mscans (mfl σ 13 (-1)) ).2 0 0) 13 (-1)) 0 0) ) 23 1) 1 0))) 32 (c_mcheck (c_mreadG  (21) 0 (c_mreadJ  (21) 0 (mfl (mfl (c_mtake (mfl (mfl (mfl (c_mscans (mfl σ 13 (-1)) ).2 0 0) 13 (-1)) 0 0) ) 23 1) 1 0))) 0 2 (((c_mreadG  (21) 0 (c_mreadJ  (21) 0 (mfl (mfl (c_mtake (mfl (mfl (mfl (c_mscans (mfl σ 13 (-1)) ).2 0 0) 13 (-1)) 0 0) ) 23 1) 1 0))).1 24) - 1) ((c_mreadG  (21) 0 (c_mreadJ  (21) 0 (mfl (mfl (c_mtake (mfl (mfl (mfl (c_mscans (mfl σ 13 (-1)) ).2 0 0) 13 (-1)) 0 0) ) 23 1) 1 0))).1 39)))) := by have h := (hr (by assumption) (by assumption)).1; unfold mreadT at h; first | (rw [if_pos (by omega)] at h; exact h) | (rw [if_neg (by omega)] at h; exact h)
        have hp2 : mok (c_mwriteReport (c_mwritePrint (mfl (c_mreadG  (21) 0 (c_mreadJ  (21) 0 (mfl (mfl (c_mtake (mfl (mfl (mfl (c_mscans (mfl σ 13 (-1)) ).2 0 0) 13 (-1)) 0 0) ) 23 1) 1 0))) 32 (c_mcheck (c_mreadG  (21) 0 (c_mreadJ  (21) 0 (mfl (mfl (c_mtake (mfl (mfl (mfl (c_mscans (mfl σ 13 (-1)) ).2 0 0) 13 (-1)) 0 0) ) 23 1) 1 0))) 0 2 (((c_mreadG  (21) 0 (c_mreadJ  (21) 0 (mfl (mfl (c_mtake (mfl (mfl (mfl (c_mscans (mfl σ 13 (-1)) ).2 0 0) 13 (-1)) 0 0) ) 23 1) 1 0))).1 24) - 1) ((c_mreadG  (21) 0 (c_mreadJ  (21) 0 (mfl (mfl (c_mtake (mfl (mfl (mfl (c_mscans (mfl σ 13 (-1)) ).2 0 0) 13 (-1)) 0 0) ) 23 1) 1 0))).1 39))))) := by have h := (hr (by assumption) (by assumption)).2; unfold mreadT at h; first | (rw [if_pos (by omega)] at h; exact h) | (rw [if_neg (by omega)] at h; exact h)
        refine D_callV (As := []) (d' := 2) (t_mwritePrint hw23 (Nat.le_refl _)  (by assumption)) dX7_read_206 v_X7_263 (fun h hc => ⟨_, hc.1⟩) rfl (Nat.le_of_ble_eq_true rfl) (by omega) (Nat.le_of_ble_eq_true rfl) ?_
        simp only [Option.toList, List.nil_append, List.cons_append]
        have hw24 : wfm (c_mwritePrint (mfl (c_mreadG  (21) 0 (c_mreadJ  (21) 0 (mfl (mfl (c_mtake (mfl (mfl (mfl (c_mscans (mfl σ 13 (-1)) ).2 0 0) 13 (-1)) 0 0) ) 23 1) 1 0))) 32 (c_mcheck (c_mreadG  (21) 0 (c_mreadJ  (21) 0 (mfl (mfl (c_mtake (mfl (mfl (mfl (c_mscans (mfl σ 13 (-1)) ).2 0 0) 13 (-1)) 0 0) ) 23 1) 1 0))) 0 2 (((c_mreadG  (21) 0 (c_mreadJ  (21) 0 (mfl (mfl (c_mtake (mfl (mfl (mfl (c_mscans (mfl σ 13 (-1)) ).2 0 0) 13 (-1)) 0 0) ) 23 1) 1 0))).1 24) - 1) ((c_mreadG  (21) 0 (c_mreadJ  (21) 0 (mfl (mfl (c_mtake (mfl (mfl (mfl (c_mscans (mfl σ 13 (-1)) ).2 0 0) 13 (-1)) 0 0) ) 23 1) 1 0))).1 39))) ) := w_mwritePrint hw23  (by assumption)
        refine C_aload_n dX7_read_209 rfl ?_
        refine D_callV (As := []) (d' := 3) (t_mwriteReport hw24 (Nat.le_refl _)  (by assumption)) dX7_read_210 v_X7_266 (fun h hc => ⟨_, hc.1⟩) rfl (Nat.le_of_ble_eq_true rfl) (by omega) (Nat.le_of_ble_eq_true rfl) ?_
        simp only [Option.toList, List.nil_append, List.cons_append]
        have hw25 : wfm (c_mwriteReport (c_mwritePrint (mfl (c_mreadG  (21) 0 (c_mreadJ  (21) 0 (mfl (mfl (c_mtake (mfl (mfl (mfl (c_mscans (mfl σ 13 (-1)) ).2 0 0) 13 (-1)) 0 0) ) 23 1) 1 0))) 32 (c_mcheck (c_mreadG  (21) 0 (c_mreadJ  (21) 0 (mfl (mfl (c_mtake (mfl (mfl (mfl (c_mscans (mfl σ 13 (-1)) ).2 0 0) 13 (-1)) 0 0) ) 23 1) 1 0))) 0 2 (((c_mreadG  (21) 0 (c_mreadJ  (21) 0 (mfl (mfl (c_mtake (mfl (mfl (mfl (c_mscans (mfl σ 13 (-1)) ).2 0 0) 13 (-1)) 0 0) ) 23 1) 1 0))).1 24) - 1) ((c_mreadG  (21) 0 (c_mreadJ  (21) 0 (mfl (mfl (c_mtake (mfl (mfl (mfl (c_mscans (mfl σ 13 (-1)) ).2 0 0) 13 (-1)) 0 0) ) 23 1) 1 0))).1 39))) ) ) := w_mwriteReport hw24  (by assumption)
        refine C_aload_n dX7_read_213 rfl ?_
        refine C_get (v := vi ((c_mwriteReport (c_mwritePrint (mfl (c_mreadG  (21) 0 (c_mreadJ  (21) 0 (mfl (mfl (c_mtake (mfl (mfl (mfl (c_mscans (mfl σ 13 (-1)) ).2 0 0) 13 (-1)) 0 0) ) 23 1) 1 0))) 32 (c_mcheck (c_mreadG  (21) 0 (c_mreadJ  (21) 0 (mfl (mfl (c_mtake (mfl (mfl (mfl (c_mscans (mfl σ 13 (-1)) ).2 0 0) 13 (-1)) 0 0) ) 23 1) 1 0))) 0 2 (((c_mreadG  (21) 0 (c_mreadJ  (21) 0 (mfl (mfl (c_mtake (mfl (mfl (mfl (c_mscans (mfl σ 13 (-1)) ).2 0 0) 13 (-1)) 0 0) ) 23 1) 1 0))).1 24) - 1) ((c_mreadG  (21) 0 (c_mreadJ  (21) 0 (mfl (mfl (c_mtake (mfl (mfl (mfl (c_mscans (mfl σ 13 (-1)) ).2 0 0) 13 (-1)) 0 0) ) 23 1) 1 0))).1 39))) ) ).1 33)) dX7_read_214 f_X7_196 (fun h hc => ⟨_, hc.1, rfl⟩) ?_
        have g_214 := hw25.f33
        refine C_iret dX7_read_217 rfl ?_
        unfold det; rw [c_mread, if_pos c_10, if_pos c_40, if_neg (by omega)]; exact ⟨rfl, rfl⟩
theorem w_mread {σ : mS}  (hw : wfm σ)  (hT : ∀ t, 0 ≤ t → t ≤ 3 → mT σ t) (hr : mreadH σ) : wfm (c_mread σ ).2 := by
  unfold c_mread
  split
  · split
    · split
      · have hw1 : wfm (mfl σ 13 (-1)) := wfm_f (k := 13) hw (show (-1 : Int) ≤ (-1) ∧ (-1) ≤ 400 by omega)
        have hw2 : wfm (c_mscans (mfl σ 13 (-1)) ).2 := w_mscans hw1 
        have hw6 : wfm (mfl (c_mscans (mfl σ 13 (-1)) ).2 0 0) := wfm_f (k := 0) hw2 (show (0 : Int) ≤ 0 ∧ 0 ≤ 2 by omega)
        have hw8 : wfm (mfl (mfl (c_mscans (mfl σ 13 (-1)) ).2 0 0) 13 (-1)) := wfm_f (k := 13) hw6 (show (-1 : Int) ≤ (-1) ∧ (-1) ≤ 400 by omega)
        have hw12 : wfm (mfl (mfl (mfl (c_mscans (mfl σ 13 (-1)) ).2 0 0) 13 (-1)) 0 0) := wfm_f (k := 0) hw8 (show (0 : Int) ≤ 0 ∧ 0 ≤ 2 by omega)
        have hTs : ∀ t, 0 ≤ t → t ≤ 3 → mT (mfl (mfl (mfl (c_mscans (mfl σ 13 (-1)) ).2 0 0) 13 (-1)) 0 0) t := fun t a b => mT_congr (g2_mscans (by decide)) (g2_mscans (by decide)) (g2_mscans (by decide)) (hT t a b)
        have hn4 : 4 ≤ (mfl (mfl (mfl (c_mscans (mfl σ 13 (-1)) ).2 0 0) 13 (-1)) 0 0).1 14 := wraps_n (σ := (mfl (mfl (c_mscans (mfl σ 13 (-1)) ).2 0 0) 13 (-1))) (by assumption)
        have htk : tOK ((mfl (mfl (mfl (c_mscans (mfl σ 13 (-1)) ).2 0 0) 13 (-1)) 0 0).2 15) 41 ((mfl (mfl (mfl (c_mscans (mfl σ 13 (-1)) ).2 0 0) 13 (-1)) 0 0).1 14) 1 0 0 := wraps_t (σ := (mfl (mfl (c_mscans (mfl σ 13 (-1)) ).2 0 0) 13 (-1))) (by assumption) (by assumption)
        have hw14 : wfm (c_mtake (mfl (mfl (mfl (c_mscans (mfl σ 13 (-1)) ).2 0 0) 13 (-1)) 0 0) ) := w_mtake hw12  (by assumption)
        have hw15 : wfm (mfl (c_mtake (mfl (mfl (mfl (c_mscans (mfl σ 13 (-1)) ).2 0 0) 13 (-1)) 0 0) ) 23 1) := wfm_f (k := 23) hw14 (show (0 : Int) ≤ 1 ∧ 1 ≤ 1 by omega)
        have hw16 : wfm (mfl (mfl (c_mtake (mfl (mfl (mfl (c_mscans (mfl σ 13 (-1)) ).2 0 0) 13 (-1)) 0 0) ) 23 1) 1 0) := wfm_f (k := 1) hw15 (show (0 : Int) ≤ 0 ∧ 0 ≤ 400 by omega)
        have hw17 : wfm (c_mreadJ  (21) 0 (mfl (mfl (c_mtake (mfl (mfl (mfl (c_mscans (mfl σ 13 (-1)) ).2 0 0) 13 (-1)) 0 0) ) 23 1) 1 0)) := w_mreadJ (i := 0) hw16  (21) (by omega) (fun t a b => mT_take (hTs t a b))
        have hw18 : wfm (c_mreadG  (21) 0 (c_mreadJ  (21) 0 (mfl (mfl (c_mtake (mfl (mfl (mfl (c_mscans (mfl σ 13 (-1)) ).2 0 0) 13 (-1)) 0 0) ) 23 1) 1 0))) := w_mreadG (g := 0) hw17  (21) (by omega)
        have h24 : (c_mreadG  (21) 0 (c_mreadJ  (21) 0 (mfl (mfl (c_mtake (mfl (mfl (mfl (c_mscans (mfl σ 13 (-1)) ).2 0 0) 13 (-1)) 0 0) ) 23 1) 1 0))).1 24 = (mfl (mfl (mfl (c_mscans (mfl σ 13 (-1)) ).2 0 0) 13 (-1)) 0 0).1 14 := by rw [g1_mreadG (by decide), g1_mreadJ (by decide)]; exact take_24
        have g_176 := hw18.f24
        have g_182 := hw18.f39
        have g_196 := hw18.f33
        have r_199 := r_mcheck (s := 0) (e := 2) (u := (((c_mreadG  (21) 0 (c_mreadJ  (21) 0 (mfl (mfl (c_mtake (mfl (mfl (mfl (c_mscans (mfl σ 13 (-1)) ).2 0 0) 13 (-1)) 0 0) ) 23 1) 1 0))).1 24) - 1)) (v := ((c_mreadG  (21) 0 (c_mreadJ  (21) 0 (mfl (mfl (c_mtake (mfl (mfl (mfl (c_mscans (mfl σ 13 (-1)) ).2 0 0) 13 (-1)) 0 0) ) 23 1) 1 0))).1 33)) hw18 (by omega) (by omega) (by omega) (by omega)
        have hw20 : wfm (mfl (c_mreadG  (21) 0 (c_mreadJ  (21) 0 (mfl (mfl (c_mtake (mfl (mfl (mfl (c_mscans (mfl σ 13 (-1)) ).2 0 0) 13 (-1)) 0 0) ) 23 1) 1 0))) 32 (c_mcheck (c_mreadG  (21) 0 (c_mreadJ  (21) 0 (mfl (mfl (c_mtake (mfl (mfl (mfl (c_mscans (mfl σ 13 (-1)) ).2 0 0) 13 (-1)) 0 0) ) 23 1) 1 0))) 0 2 (((c_mreadG  (21) 0 (c_mreadJ  (21) 0 (mfl (mfl (c_mtake (mfl (mfl (mfl (c_mscans (mfl σ 13 (-1)) ).2 0 0) 13 (-1)) 0 0) ) 23 1) 1 0))).1 24) - 1) ((c_mreadG  (21) 0 (c_mreadJ  (21) 0 (mfl (mfl (c_mtake (mfl (mfl (mfl (c_mscans (mfl σ 13 (-1)) ).2 0 0) 13 (-1)) 0 0) ) 23 1) 1 0))).1 33))) := wfm_f (k := 32) hw18 (show (0 : Int) ≤ (c_mcheck (c_mreadG  (21) 0 (c_mreadJ  (21) 0 (mfl (mfl (c_mtake (mfl (mfl (mfl (c_mscans (mfl σ 13 (-1)) ).2 0 0) 13 (-1)) 0 0) ) 23 1) 1 0))) 0 2 (((c_mreadG  (21) 0 (c_mreadJ  (21) 0 (mfl (mfl (c_mtake (mfl (mfl (mfl (c_mscans (mfl σ 13 (-1)) ).2 0 0) 13 (-1)) 0 0) ) 23 1) 1 0))).1 24) - 1) ((c_mreadG  (21) 0 (c_mreadJ  (21) 0 (mfl (mfl (c_mtake (mfl (mfl (mfl (c_mscans (mfl σ 13 (-1)) ).2 0 0) 13 (-1)) 0 0) ) 23 1) 1 0))).1 33)) ∧ (c_mcheck (c_mreadG  (21) 0 (c_mreadJ  (21) 0 (mfl (mfl (c_mtake (mfl (mfl (mfl (c_mscans (mfl σ 13 (-1)) ).2 0 0) 13 (-1)) 0 0) ) 23 1) 1 0))) 0 2 (((c_mreadG  (21) 0 (c_mreadJ  (21) 0 (mfl (mfl (c_mtake (mfl (mfl (mfl (c_mscans (mfl σ 13 (-1)) ).2 0 0) 13 (-1)) 0 0) ) 23 1) 1 0))).1 24) - 1) ((c_mreadG  (21) 0 (c_mreadJ  (21) 0 (mfl (mfl (c_mtake (mfl (mfl (mfl (c_mscans (mfl σ 13 (-1)) ).2 0 0) 13 (-1)) 0 0) ) 23 1) 1 0))).1 33)) ≤ 3 by omega)
        have hp1 : mok (c_mwritePrint (mfl (c_mreadG  (21) 0 (c_mreadJ  (21) 0 (mfl (mfl (c_mtake (mfl (mfl (mfl (c_mscans (mfl σ 13 (-1)) ).2 0 0) 13 (-1)) 0 0) ) 23 1) 1 0))) 32 (c_mcheck (c_mreadG  (21) 0 (c_mreadJ  (21) 0 (mfl (mfl (c_mtake (mfl (mfl (mfl (c_mscans (mfl σ 13 (-1)) ).2 0 0) 13 (-1)) 0 0) ) 23 1) 1 0))) 0 2 (((c_mreadG  (21) 0 (c_mreadJ  (21) 0 (mfl (mfl (c_mtake (mfl (mfl (mfl (c_mscans (mfl σ 13 (-1)) ).2 0 0) 13 (-1)) 0 0) ) 23 1) 1 0))).1 24) - 1) ((c_mreadG  (21) 0 (c_mreadJ  (21) 0 (mfl (mfl (c_mtake (mfl (mfl (mfl (c_mscans (mfl σ 13 (-1)) ).2 0 0) 13 (-1)) 0 0) ) 23 1) 1 0))).1 33)))) := by have h := (hr (by assumption) (by assumption)).1; unfold mreadT at h; first | (rw [if_pos (by omega)] at h; exact h) | (rw [if_neg (by omega)] at h; exact h)
        have hp2 : mok (c_mwriteReport (c_mwritePrint (mfl (c_mreadG  (21) 0 (c_mreadJ  (21) 0 (mfl (mfl (c_mtake (mfl (mfl (mfl (c_mscans (mfl σ 13 (-1)) ).2 0 0) 13 (-1)) 0 0) ) 23 1) 1 0))) 32 (c_mcheck (c_mreadG  (21) 0 (c_mreadJ  (21) 0 (mfl (mfl (c_mtake (mfl (mfl (mfl (c_mscans (mfl σ 13 (-1)) ).2 0 0) 13 (-1)) 0 0) ) 23 1) 1 0))) 0 2 (((c_mreadG  (21) 0 (c_mreadJ  (21) 0 (mfl (mfl (c_mtake (mfl (mfl (mfl (c_mscans (mfl σ 13 (-1)) ).2 0 0) 13 (-1)) 0 0) ) 23 1) 1 0))).1 24) - 1) ((c_mreadG  (21) 0 (c_mreadJ  (21) 0 (mfl (mfl (c_mtake (mfl (mfl (mfl (c_mscans (mfl σ 13 (-1)) ).2 0 0) 13 (-1)) 0 0) ) 23 1) 1 0))).1 33))))) := by have h := (hr (by assumption) (by assumption)).2; unfold mreadT at h; first | (rw [if_pos (by omega)] at h; exact h) | (rw [if_neg (by omega)] at h; exact h)
        have hw21 : wfm (c_mwritePrint (mfl (c_mreadG  (21) 0 (c_mreadJ  (21) 0 (mfl (mfl (c_mtake (mfl (mfl (mfl (c_mscans (mfl σ 13 (-1)) ).2 0 0) 13 (-1)) 0 0) ) 23 1) 1 0))) 32 (c_mcheck (c_mreadG  (21) 0 (c_mreadJ  (21) 0 (mfl (mfl (c_mtake (mfl (mfl (mfl (c_mscans (mfl σ 13 (-1)) ).2 0 0) 13 (-1)) 0 0) ) 23 1) 1 0))) 0 2 (((c_mreadG  (21) 0 (c_mreadJ  (21) 0 (mfl (mfl (c_mtake (mfl (mfl (mfl (c_mscans (mfl σ 13 (-1)) ).2 0 0) 13 (-1)) 0 0) ) 23 1) 1 0))).1 24) - 1) ((c_mreadG  (21) 0 (c_mreadJ  (21) 0 (mfl (mfl (c_mtake (mfl (mfl (mfl (c_mscans (mfl σ 13 (-1)) ).2 0 0) 13 (-1)) 0 0) ) 23 1) 1 0))).1 33))) ) := w_mwritePrint hw20  (by assumption)
        have hw22 : wfm (c_mwriteReport (c_mwritePrint (mfl (c_mreadG  (21) 0 (c_mreadJ  (21) 0 (mfl (mfl (c_mtake (mfl (mfl (mfl (c_mscans (mfl σ 13 (-1)) ).2 0 0) 13 (-1)) 0 0) ) 23 1) 1 0))) 32 (c_mcheck (c_mreadG  (21) 0 (c_mreadJ  (21) 0 (mfl (mfl (c_mtake (mfl (mfl (mfl (c_mscans (mfl σ 13 (-1)) ).2 0 0) 13 (-1)) 0 0) ) 23 1) 1 0))) 0 2 (((c_mreadG  (21) 0 (c_mreadJ  (21) 0 (mfl (mfl (c_mtake (mfl (mfl (mfl (c_mscans (mfl σ 13 (-1)) ).2 0 0) 13 (-1)) 0 0) ) 23 1) 1 0))).1 24) - 1) ((c_mreadG  (21) 0 (c_mreadJ  (21) 0 (mfl (mfl (c_mtake (mfl (mfl (mfl (c_mscans (mfl σ 13 (-1)) ).2 0 0) 13 (-1)) 0 0) ) 23 1) 1 0))).1 33))) ) ) := w_mwriteReport hw21  (by assumption)
        have g_214 := hw22.f33
        exact hw22
      · have hw1 : wfm (mfl σ 13 (-1)) := wfm_f (k := 13) hw (show (-1 : Int) ≤ (-1) ∧ (-1) ≤ 400 by omega)
        have hw2 : wfm (c_mscans (mfl σ 13 (-1)) ).2 := w_mscans hw1 
        have hw6 : wfm (mfl (c_mscans (mfl σ 13 (-1)) ).2 0 0) := wfm_f (k := 0) hw2 (show (0 : Int) ≤ 0 ∧ 0 ≤ 2 by omega)
        have hw8 : wfm (mfl (mfl (c_mscans (mfl σ 13 (-1)) ).2 0 0) 13 (-1)) := wfm_f (k := 13) hw6 (show (-1 : Int) ≤ (-1) ∧ (-1) ≤ 400 by omega)
        have hw12 : wfm (mfl (mfl (mfl (c_mscans (mfl σ 13 (-1)) ).2 0 0) 13 (-1)) 0 0) := wfm_f (k := 0) hw8 (show (0 : Int) ≤ 0 ∧ 0 ≤ 2 by omega)
        have hTs : ∀ t, 0 ≤ t → t ≤ 3 → mT (mfl (mfl (mfl (c_mscans (mfl σ 13 (-1)) ).2 0 0) 13 (-1)) 0 0) t := fun t a b => mT_congr (g2_mscans (by decide)) (g2_mscans (by decide)) (g2_mscans (by decide)) (hT t a b)
        have hn4 : 4 ≤ (mfl (mfl (mfl (c_mscans (mfl σ 13 (-1)) ).2 0 0) 13 (-1)) 0 0).1 14 := wraps_n (σ := (mfl (mfl (c_mscans (mfl σ 13 (-1)) ).2 0 0) 13 (-1))) (by assumption)
        have htk : tOK ((mfl (mfl (mfl (c_mscans (mfl σ 13 (-1)) ).2 0 0) 13 (-1)) 0 0).2 15) 41 ((mfl (mfl (mfl (c_mscans (mfl σ 13 (-1)) ).2 0 0) 13 (-1)) 0 0).1 14) 1 0 0 := wraps_t (σ := (mfl (mfl (c_mscans (mfl σ 13 (-1)) ).2 0 0) 13 (-1))) (by assumption) (by assumption)
        have hw14 : wfm (c_mtake (mfl (mfl (mfl (c_mscans (mfl σ 13 (-1)) ).2 0 0) 13 (-1)) 0 0) ) := w_mtake hw12  (by assumption)
        have hw15 : wfm (mfl (c_mtake (mfl (mfl (mfl (c_mscans (mfl σ 13 (-1)) ).2 0 0) 13 (-1)) 0 0) ) 23 1) := wfm_f (k := 23) hw14 (show (0 : Int) ≤ 1 ∧ 1 ≤ 1 by omega)
        have hw16 : wfm (mfl (mfl (c_mtake (mfl (mfl (mfl (c_mscans (mfl σ 13 (-1)) ).2 0 0) 13 (-1)) 0 0) ) 23 1) 1 0) := wfm_f (k := 1) hw15 (show (0 : Int) ≤ 0 ∧ 0 ≤ 400 by omega)
        have hw17 : wfm (c_mreadJ  (21) 0 (mfl (mfl (c_mtake (mfl (mfl (mfl (c_mscans (mfl σ 13 (-1)) ).2 0 0) 13 (-1)) 0 0) ) 23 1) 1 0)) := w_mreadJ (i := 0) hw16  (21) (by omega) (fun t a b => mT_take (hTs t a b))
        have hw18 : wfm (c_mreadG  (21) 0 (c_mreadJ  (21) 0 (mfl (mfl (c_mtake (mfl (mfl (mfl (c_mscans (mfl σ 13 (-1)) ).2 0 0) 13 (-1)) 0 0) ) 23 1) 1 0))) := w_mreadG (g := 0) hw17  (21) (by omega)
        have h24 : (c_mreadG  (21) 0 (c_mreadJ  (21) 0 (mfl (mfl (c_mtake (mfl (mfl (mfl (c_mscans (mfl σ 13 (-1)) ).2 0 0) 13 (-1)) 0 0) ) 23 1) 1 0))).1 24 = (mfl (mfl (mfl (c_mscans (mfl σ 13 (-1)) ).2 0 0) 13 (-1)) 0 0).1 14 := by rw [g1_mreadG (by decide), g1_mreadJ (by decide)]; exact take_24
        have g_176 := hw18.f24
        have g_182 := hw18.f39
        have g_189 := hw18.f39
        have r_199 := r_mcheck (s := 0) (e := 2) (u := (((c_mreadG  (21) 0 (c_mreadJ  (21) 0 (mfl (mfl (c_mtake (mfl (mfl (mfl (c_mscans (mfl σ 13 (-1)) ).2 0 0) 13 (-1)) 0 0) ) 23 1) 1 0))).1 24) - 1)) (v := ((c_mreadG  (21) 0 (c_mreadJ  (21) 0 (mfl (mfl (c_mtake (mfl (mfl (mfl (c_mscans (mfl σ 13 (-1)) ).2 0 0) 13 (-1)) 0 0) ) 23 1) 1 0))).1 39)) hw18 (by omega) (by omega) (by omega) (by omega)
        have hw23 : wfm (mfl (c_mreadG  (21) 0 (c_mreadJ  (21) 0 (mfl (mfl (c_mtake (mfl (mfl (mfl (c_mscans (mfl σ 13 (-1)) ).2 0 0) 13 (-1)) 0 0) ) 23 1) 1 0))) 32 (c_mcheck (c_mreadG  (21) 0 (c_mreadJ  (21) 0 (mfl (mfl (c_mtake (mfl (mfl (mfl (c_mscans (mfl σ 13 (-1)) ).2 0 0) 13 (-1)) 0 0) ) 23 1) 1 0))) 0 2 (((c_mreadG  (21) 0 (c_mreadJ  (21) 0 (mfl (mfl (c_mtake (mfl (mfl (mfl (c_mscans (mfl σ 13 (-1)) ).2 0 0) 13 (-1)) 0 0) ) 23 1) 1 0))).1 24) - 1) ((c_mreadG  (21) 0 (c_mreadJ  (21) 0 (mfl (mfl (c_mtake (mfl (mfl (mfl (c_mscans (mfl σ 13 (-1)) ).2 0 0) 13 (-1)) 0 0) ) 23 1) 1 0))).1 39))) := wfm_f (k := 32) hw18 (show (0 : Int) ≤ (c_mcheck (c_mreadG  (21) 0 (c_mreadJ  (21) 0 (mfl (mfl (c_mtake (mfl (mfl (mfl (c_mscans (mfl σ 13 (-1)) ).2 0 0) 13 (-1)) 0 0) ) 23 1) 1 0))) 0 2 (((c_mreadG  (21) 0 (c_mreadJ  (21) 0 (mfl (mfl (c_mtake (mfl (mfl (mfl (c_mscans (mfl σ 13 (-1)) ).2 0 0) 13 (-1)) 0 0) ) 23 1) 1 0))).1 24) - 1) ((c_mreadG  (21) 0 (c_mreadJ  (21) 0 (mfl (mfl (c_mtake (mfl (mfl (mfl (c_mscans (mfl σ 13 (-1)) ).2 0 0) 13 (-1)) 0 0) ) 23 1) 1 0))).1 39)) ∧ (c_mcheck (c_mreadG  (21) 0 (c_mreadJ  (21) 0 (mfl (mfl (c_mtake (mfl (mfl (mfl (c_mscans (mfl σ 13 (-1)) ).2 0 0) 13 (-1)) 0 0) ) 23 1) 1 0))) 0 2 (((c_mreadG  (21) 0 (c_mreadJ  (21) 0 (mfl (mfl (c_mtake (mfl (mfl (mfl (c_mscans (mfl σ 13 (-1)) ).2 0 0) 13 (-1)) 0 0) ) 23 1) 1 0))).1 24) - 1) ((c_mreadG  (21) 0 (c_mreadJ  (21) 0 (mfl (mfl (c_mtake (mfl (mfl (mfl (c_mscans (mfl σ 13 (-1)) ).2 0 0) 13 (-1)) 0 0) ) 23 1) 1 0))).1 39)) ≤ 3 by omega)
        have hp1 : mok (c_mwritePrint (mfl (c_mreadG  (21) 0 (c_mreadJ  (21) 0 (mfl (mfl (c_mtake (mfl (mfl (mfl (c_mscans (mfl σ 13 (-1)) ).2 0 0) 13 (-1)) 0 0) ) 23 1) 1 0))) 32 (c_mcheck (c_mreadG  (21) 0 (c_mreadJ  (21) 0 (mfl (mfl (c_mtake (mfl (mfl (mfl (c_mscans (mfl σ 13 (-1)) ).2 0 0) 13 (-1)) 0 0) ) 23 1) 1 0))) 0 2 (((c_mreadG  (21) 0 (c_mreadJ  (21) 0 (mfl (mfl (c_mtake (mfl (mfl (mfl (c_mscans (mfl σ 13 (-1)) ).2 0 0) 13 (-1)) 0 0) ) 23 1) 1 0))).1 24) - 1) ((c_mreadG  (21) 0 (c_mreadJ  (21) 0 (mfl (mfl (c_mtake (mfl (mfl (mfl (c_mscans (mfl σ 13 (-1)) ).2 0 0) 13 (-1)) 0 0) ) 23 1) 1 0))).1 39)))) := by have h := (hr (by assumption) (by assumption)).1; unfold mreadT at h; first | (rw [if_pos (by omega)] at h; exact h) | (rw [if_neg (by omega)] at h; exact h)
        have hp2 : mok (c_mwriteReport (c_mwritePrint (mfl (c_mreadG  (21) 0 (c_mreadJ  (21) 0 (mfl (mfl (c_mtake (mfl (mfl (mfl (c_mscans (mfl σ 13 (-1)) ).2 0 0) 13 (-1)) 0 0) ) 23 1) 1 0))) 32 (c_mcheck (c_mreadG  (21) 0 (c_mreadJ  (21) 0 (mfl (mfl (c_mtake (mfl (mfl (mfl (c_mscans (mfl σ 13 (-1)) ).2 0 0) 13 (-1)) 0 0) ) 23 1) 1 0))) 0 2 (((c_mreadG  (21) 0 (c_mreadJ  (21) 0 (mfl (mfl (c_mtake (mfl (mfl (mfl (c_mscans (mfl σ 13 (-1)) ).2 0 0) 13 (-1)) 0 0) ) 23 1) 1 0))).1 24) - 1) ((c_mreadG  (21) 0 (c_mreadJ  (21) 0 (mfl (mfl (c_mtake (mfl (mfl (mfl (c_mscans (mfl σ 13 (-1)) ).2 0 0) 13 (-1)) 0 0) ) 23 1) 1 0))).1 39))))) := by have h := (hr (by assumption) (by assumption)).2; unfold mreadT at h; first | (rw [if_pos (by omega)] at h; exact h) | (rw [if_neg (by omega)] at h; exact h)
        have hw24 : wfm (c_mwritePrint (mfl (c_mreadG  (21) 0 (c_mreadJ  (21) 0 (mfl (mfl (c_mtake (mfl (mfl (mfl (c_mscans (mfl σ 13 (-1)) ).2 0 0) 13 (-1)) 0 0) ) 23 1) 1 0))) 32 (c_mcheck (c_mreadG  (21) 0 (c_mreadJ  (21) 0 (mfl (mfl (c_mtake (mfl (mfl (mfl (c_mscans (mfl σ 13 (-1)) ).2 0 0) 13 (-1)) 0 0) ) 23 1) 1 0))) 0 2 (((c_mreadG  (21) 0 (c_mreadJ  (21) 0 (mfl (mfl (c_mtake (mfl (mfl (mfl (c_mscans (mfl σ 13 (-1)) ).2 0 0) 13 (-1)) 0 0) ) 23 1) 1 0))).1 24) - 1) ((c_mreadG  (21) 0 (c_mreadJ  (21) 0 (mfl (mfl (c_mtake (mfl (mfl (mfl (c_mscans (mfl σ 13 (-1)) ).2 0 0) 13 (-1)) 0 0) ) 23 1) 1 0))).1 39))) ) := w_mwritePrint hw23  (by assumption)
        have hw25 : wfm (c_mwriteReport (c_mwritePrint (mfl (c_mreadG  (21) 0 (c_mreadJ  (21) 0 (mfl (mfl (c_mtake (mfl (mfl (mfl (c_mscans (mfl σ 13 (-1)) ).2 0 0) 13 (-1)) 0 0) ) 23 1) 1 0))) 32 (c_mcheck (c_mreadG  (21) 0 (c_mreadJ  (21) 0 (mfl (mfl (c_mtake (mfl (mfl (mfl (c_mscans (mfl σ 13 (-1)) ).2 0 0) 13 (-1)) 0 0) ) 23 1) 1 0))) 0 2 (((c_mreadG  (21) 0 (c_mreadJ  (21) 0 (mfl (mfl (c_mtake (mfl (mfl (mfl (c_mscans (mfl σ 13 (-1)) ).2 0 0) 13 (-1)) 0 0) ) 23 1) 1 0))).1 24) - 1) ((c_mreadG  (21) 0 (c_mreadJ  (21) 0 (mfl (mfl (c_mtake (mfl (mfl (mfl (c_mscans (mfl σ 13 (-1)) ).2 0 0) 13 (-1)) 0 0) ) 23 1) 1 0))).1 39))) ) ) := w_mwriteReport hw24  (by assumption)
        have g_214 := hw25.f33
        exact hw25
    · have hw1 : wfm (mfl σ 13 (-1)) := wfm_f (k := 13) hw (show (-1 : Int) ≤ (-1) ∧ (-1) ≤ 400 by omega)
      have hw2 : wfm (c_mscans (mfl σ 13 (-1)) ).2 := w_mscans hw1 
      have hw6 : wfm (mfl (c_mscans (mfl σ 13 (-1)) ).2 0 0) := wfm_f (k := 0) hw2 (show (0 : Int) ≤ 0 ∧ 0 ≤ 2 by omega)
      have hw8 : wfm (mfl (mfl (c_mscans (mfl σ 13 (-1)) ).2 0 0) 13 (-1)) := wfm_f (k := 13) hw6 (show (-1 : Int) ≤ (-1) ∧ (-1) ≤ 400 by omega)
      have hw10 : wfm (mfl (mfl (mfl (c_mscans (mfl σ 13 (-1)) ).2 0 0) 13 (-1)) 0 2) := wfm_f (k := 0) hw8 (show (0 : Int) ≤ 2 ∧ 2 ≤ 2 by omega)
      exact hw10
  · have hw1 : wfm (mfl σ 13 (-1)) := wfm_f (k := 13) hw (show (-1 : Int) ≤ (-1) ∧ (-1) ≤ 400 by omega)
    have hw2 : wfm (c_mscans (mfl σ 13 (-1)) ).2 := w_mscans hw1 
    have hw4 : wfm (mfl (c_mscans (mfl σ 13 (-1)) ).2 0 1) := wfm_f (k := 0) hw2 (show (0 : Int) ≤ 1 ∧ 1 ≤ 2 by omega)
    exact hw4
