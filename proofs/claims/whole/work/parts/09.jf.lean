theorem jw0 : ∀ w ∈ wsX00, w ∈ lw_tbl := by decide +kernel
theorem jw1 : ∀ w ∈ wsX10, w ∈ lw_tbl := by decide +kernel
theorem jw2 : ∀ w ∈ wsX20, w ∈ lw_tbl := by decide +kernel
theorem jw3 : ∀ w ∈ wsX30, w ∈ lw_tbl := by decide +kernel
theorem jw4 : ∀ w ∈ wsX40, w ∈ lw_tbl := by decide +kernel
theorem jw5 : ∀ w ∈ wsX50, w ∈ lw_tbl := by decide +kernel
theorem jw6 : ∀ w ∈ wsX60, w ∈ lw_tbl := by decide +kernel
theorem jw7 : ∀ w ∈ wsX70, w ∈ lw_tbl := by decide +kernel
theorem jgoodU (C : String) (T : u_T) (N : Nat) : ∀ w ∈ u_ws C T N, goodWord w = true := fun w hw => by
  obtain ⟨k, _, rfl⟩ := List.mem_map.mp hw
  unfold u_lay
  split <;> rfl
/-- the words of a class's fields -/
theorem jcls {ci : Nat} {q : vw_C} (h : vwCl[ci]? = some q) : (∀ w ∈ u_ws q.1 q.2.1 q.2.2, w ∈ lw_tbl) ∧ (∃ ty : Nat → FieldType, ∀ k, k < q.2.2 → parseFieldDescriptor (q.2.1 k).2.2.1 = some (ty k)) ∧ (∀ a, a < q.2.2 → ∀ b, b < q.2.2 → a ≠ b → (q.2.1 a).2.1 ≠ (q.2.1 b).2.1) ∧ ci < 8 := by
  match ci, h with
  | 0, h => cases h; exact ⟨jw0, ⟨tyX0, tyX0_ok⟩, nmX0, by decide⟩
  | 1, h => cases h; exact ⟨jw1, ⟨tyX1, tyX1_ok⟩, nmX1, by decide⟩
  | 2, h => cases h; exact ⟨jw2, ⟨tyX2, tyX2_ok⟩, nmX2, by decide⟩
  | 3, h => cases h; exact ⟨jw3, ⟨tyX3, tyX3_ok⟩, nmX3, by decide⟩
  | 4, h => cases h; exact ⟨jw4, ⟨tyX4, tyX4_ok⟩, nmX4, by decide⟩
  | 5, h => cases h; exact ⟨jw5, ⟨tyX5, tyX5_ok⟩, nmX5, by decide⟩
  | 6, h => cases h; exact ⟨jw6, ⟨tyX6, tyX6_ok⟩, nmX6, by decide⟩
  | 7, h => cases h; exact ⟨jw7, ⟨tyX7, tyX7_ok⟩, nmX7, by decide⟩
  | k + 8, h => simp [vwCl] at h
abbrev jgw : List Cond := lw_tbl.filter goodWord
theorem jgw_of {w : Cond} (h : w ∈ lw_tbl) (hg : goodWord w = true) : w ∈ jgw := List.mem_filter.mpr ⟨h, hg⟩
theorem jg.ts {G : jG} {A : Nat → Prop} {s : State} (h : jg G A s) (args : Array Value) : ∀ w ∈ jgw, w.before args s = true := fun w hw => h.1 w (List.mem_filter.mp hw).1 (List.mem_filter.mp hw).2 args
/-- field k of the kind ci is the entry idx of own's pool, of type ty, final or not -/
def jfl (own : String) (idx ci k : Nat) (ty : FieldType) (fin : Bool) : Prop :=
  ∃ q : vw_C, vwCl[ci]? = some q ∧ k < q.2.2 ∧ Cond.fieldLink own idx (q.2.1 k).1 (q.2.1 k).2.1 (q.2.1 k).2.2.1 ∈ lw_tbl ∧ parseFieldDescriptor (q.2.1 k).2.2.1 = some ty ∧ (q.2.1 k).2.2.2 = fin
def jfit (ty : FieldType) (v : Value) : Prop := ∀ (L : List Nat) (w : Value), jv L v w → narrow ty w = w ∧ fits ty w = true
theorem jfit_i {x : Int32} : jfit .int (.int x) := fun L w h => by rw [show w = _ from h]; exact ⟨rfl, rfl⟩
theorem jfit_r {C : String} {k : Nat} : jfit (.object C) (.ref k) := fun L w h => by obtain ⟨a, _, e⟩ := h; rw [e]; exact ⟨rfl, rfl⟩
theorem jfit_a {t : FieldType} {k : Nat} : jfit (.array t) (.ref k) := fun L w h => by obtain ⟨a, _, e⟩ := h; rw [e]; exact ⟨rfl, rfl⟩
theorem jfit_z {b : Bool} : jfit .boolean (.int (if b then 1 else 0)) := fun L w h => by rw [show w = _ from h]; cases b <;> exact ⟨by decide, by decide⟩
theorem jfit_z1 : jfit .boolean (.int 1) := fun L w h => by rw [show w = _ from h]; exact ⟨by decide, by decide⟩
theorem jfit_z0 : jfit .boolean (.int 0) := fun L w h => by rw [show w = _ from h]; exact ⟨by decide, by decide⟩
theorem jcl.obj {G : jG} {A : Nat → Prop} {s : State} {L : List Nat} {H : Heap} {a ci : Nat} {fs : List Value} (h : jcl G A s L H a (ci, fs)) (hc : ci < 8) : ∃ ws, jvs L fs ws ∧ A a ∧ va_at G.1 vwCl (a, .inr (ci, ws)) H := by
  obtain ⟨ws, h1, h2⟩ := h
  rcases h2 with ⟨x, y, z⟩ | ⟨x, x', y, z⟩ | ⟨x, scr, y1, y2, y3⟩ | x
  · exact ⟨ws, h1, y, z⟩
  · exact absurd hc (by dsimp only at x; omega)
  · exact absurd hc (by dsimp only at x; omega)
  · exact absurd hc (by dsimp only at x; omega)
theorem jcl.arr {G : jG} {A : Nat → Prop} {s : State} {L : List Nat} {H : Heap} {a ci : Nat} {fs : List Value} (h : jcl G A s L H a (ci, fs)) (hc : 10 ≤ ci ∧ ci < 14) : ∃ ws, jvs L fs ws ∧ A a ∧ H[a]? = some (arrV (G.2 ci) ws.length (vp_V ws)) := by
  obtain ⟨ws, h1, h2⟩ := h
  rcases h2 with ⟨x, y, z⟩ | ⟨x, x', y, z⟩ | ⟨x, scr, y1, y2, y3⟩ | x
  · exact absurd hc (by dsimp only at x; omega)
  · exact ⟨ws, h1, y, z⟩
  · exact absurd hc (by dsimp only at x; omega)
  · exact absurd hc (by dsimp only at x; omega)
theorem va_P1 {D : va_G} {cl : List vw_C} {q : Nat × va_E} {H : Heap} (h : va_at D cl q H) : va_P D cl [q] H := fun k x hx => by
  have hz : k < 1 := (List.getElem?_eq_some_iff.mp hx).1
  rw [show k = 0 by omega] at hx
  cases hx; exact h
section JF
variable {l : Launch} {G : jG} {Y : jY} {d bc bs n pc : Nat} {ls : List (Option Value)} {st : List Value} {h : jH} {K : jK}
theorem J_iret {v : Int32} (hd : decode Y.1.2.1 pc = .ok (.ireturn, 1)) (hr : Y.1.2.2.2 = some .int) (hK : K (.inl (some (.int v))) n h) : jJ l G Y d bc bs n pc ls [.int v] h K := by
  intro p e R s m args below meth c A H locs cells slots C S L0 L lsR stR C0 hR hL hS hl hst h1 h2 h3 h4
  obtain ⟨ws, e1, q1⟩ := hst.i
  rw [show ws = [] from q1] at e1
  subst e1
  refine W.widen (k := C) (n := S) (by omega) (by omega) (vx_ret (W.iret C0.1 C0.2.1 (C0.2.2.1.trans hr) (fun t ht hW => ?_) hS.2.2 hd C0.2.2.2.2.2.1))
  exact ⟨some (.int v), _, L, n, h, rfl, ⟨_, rfl, rfl⟩, hK, hL, by rw [ht]; exact hR.mono (fun _ z => z) hW.alike, hS.F ht⟩
theorem J_zret {v : Int32} (hd : decode Y.1.2.1 pc = .ok (.ireturn, 1)) (hr : Y.1.2.2.2 = some .boolean) (hv : v = 0 ∨ v = 1) (hK : K (.inl (some (.int v))) n h) : jJ l G Y d bc bs n pc ls [.int v] h K := by
  intro p e R s m args below meth c A H locs cells slots C S L0 L lsR stR C0 hR hL hS hl hst h1 h2 h3 h4
  obtain ⟨ws, e1, q1⟩ := hst.i
  rw [show ws = [] from q1] at e1
  subst e1
  refine W.widen (k := C) (n := S) (by omega) (by omega) (vx_ret (W.zret C0.1 C0.2.1 (C0.2.2.1.trans hr) (by rcases hv with e | e <;> rw [e] <;> decide) (fun t ht hW => ?_) hS.2.2 hd C0.2.2.2.2.2.1))
  exact ⟨some (.int v), _, L, n, h, rfl, ⟨_, rfl, rfl⟩, hK, hL, by rw [ht]; exact hR.mono (fun _ z => z) hW.alike, hS.F ht⟩
theorem J_vret (hd : decode Y.1.2.1 pc = .ok (.return_, 1)) (hr : Y.1.2.2.2 = none) (hK : K (.inl none) n h) : jJ l G Y d bc bs n pc ls [] h K := by
  intro p e R s m args below meth c A H locs cells slots C S L0 L lsR stR C0 hR hL hS hl hst h1 h2 h3 h4
  rw [show stR = [] from hst]
  refine W.widen (k := C) (n := S) (by omega) (by omega) (vx_ret (W.vret C0.1 C0.2.1 (C0.2.2.1.trans hr) (fun t ht hW => ?_) hS.2.2 hd C0.2.2.2.2.2.1))
  exact ⟨none, _, L, n, h, rfl, rfl, hK, hL, by rw [ht]; exact hR.mono (fun _ z => z) hW.alike, hS.F ht⟩
theorem J_aret {x : Nat} {t0 : String} (hd : decode Y.1.2.1 pc = .ok (.areturn, 1)) (hr : Y.1.2.2.2 = some (.object t0)) (hK : K (.inl (some (.ref x))) n h) : jJ l G Y d bc bs n pc ls [.ref x] h K := by
  intro p e R s m args below meth c A H locs cells slots C S L0 L lsR stR C0 hR hL hS hl hst h1 h2 h3 h4
  obtain ⟨a, ws, e1, qa, q1⟩ := hst.r
  rw [show ws = [] from q1] at e1
  subst e1
  refine W.widen (k := C) (n := S) (by omega) (by omega) (vx_ret (W.aret C0.1 C0.2.1 (C0.2.2.1.trans hr) (Or.inl ⟨_, rfl⟩) (Or.inr ⟨a, rfl⟩) (fun t ht hW => ?_) hS.2.2 hd C0.2.2.2.2.2.1))
  exact ⟨some (.ref x), _, L, n, h, rfl, ⟨_, rfl, a, qa, rfl⟩, hK, hL, by rw [ht]; exact hR.mono (fun _ z => z) hW.alike, hS.F ht⟩
theorem J_aretN {t0 : String} (hd : decode Y.1.2.1 pc = .ok (.areturn, 1)) (hr : Y.1.2.2.2 = some (.object t0)) (hK : K (.inl (some .null)) n h) : jJ l G Y d bc bs n pc ls [.null] h K := by
  intro p e R s m args below meth c A H locs cells slots C S L0 L lsR stR C0 hR hL hS hl hst h1 h2 h3 h4
  obtain ⟨ws, e1, q1⟩ := hst.n
  rw [show ws = [] from q1] at e1
  subst e1
  refine W.widen (k := C) (n := S) (by omega) (by omega) (vx_ret (W.aret C0.1 C0.2.1 (C0.2.2.1.trans hr) (Or.inl ⟨_, rfl⟩) (Or.inl rfl) (fun t ht hW => ?_) hS.2.2 hd C0.2.2.2.2.2.1))
  exact ⟨some .null, _, L, n, h, rfl, ⟨_, rfl, rfl⟩, hK, hL, by rw [ht]; exact hR.mono (fun _ z => z) hW.alike, hS.F ht⟩
theorem J_get {r ci k idx : Nat} {fs : List Value} {v : Value} {ty : FieldType} {fin : Bool} (hd : decode Y.1.2.1 pc = .ok (.getfield idx, 3)) (hf : jfl Y.1.1.cls idx ci k ty fin) (hc : h r = (ci, fs)) (hv : fs[k]? = some v) (kk : jJ l G Y d bc bs n (pc + 3) ls (v :: st) h K) : jJ l G Y d bc bs n pc ls (.ref r :: st) h K := by
  intro p e R s m args below meth c A H locs cells slots C S L0 L lsR stR C0 hR hL hS hl hst h1 h2 h3 h4
  obtain ⟨q, f1, f2, f3, f4, f5⟩ := hf
  obtain ⟨w1, -, -, hci⟩ := jcls f1
  obtain ⟨a, sr, e1, ha, q1⟩ := hst.r
  subst e1
  have hcl := hR.2.2 r a ha
  rw [hc] at hcl
  obtain ⟨ws, j1, j2, j3⟩ := hcl.obj hci
  obtain ⟨w, x1, x2⟩ := j1.get hv
  have hg := C0.2.2.2.2.2.2.2.2.2.2.2.1
  exact va_get C0.1 C0.2.1 (hg.ts args) (fun u hu => jgw_of (w1 u hu) (jgoodU _ _ _ u hu)) C0.2.2.2.2.1 hg.2.2.2.2.2.1 (va_P1 j3) 0 rfl f1 k f2 (hg.1 _ f3 rfl args) (fun _ z => z) x1 hd (kk p e R s m args below meth c A H locs cells slots C S L0 L lsR (w :: sr) C0 hR hL hS hl ⟨_, _, rfl, x2, q1⟩ h1 h2 h3 h4)
theorem J_put {r ci k idx : Nat} {fs : List Value} {v : Value} {ty : FieldType} (hd : decode Y.1.2.1 pc = .ok (.putfield idx, 3)) (hf : jfl Y.1.1.cls idx ci k ty false) (hc : h r = (ci, fs)) (hk : k < fs.length) (hv : jfit ty v) (kk : jJ l G Y d bc bs n (pc + 3) ls st (jup h r (ci, fs.set k v)) K) : jJ l G Y d bc bs n pc ls (v :: .ref r :: st) h K := by
  intro p e R s m args below meth c A H locs cells slots C S L0 L lsR stR C0 hR hL hS hl hst h1 h2 h3 h4
  obtain ⟨q, f1, f2, f3, f4, f5⟩ := hf
  obtain ⟨w1, ⟨ty0, hty⟩, hnm, hci⟩ := jcls f1
  obtain ⟨w, sr0, e0, hw, q0⟩ := hst.c
  obtain ⟨a, sr, e1, ha, q1⟩ := q0.r
  subst e1; subst e0
  have hcl := hR.2.2 r a ha
  rw [hc] at hcl
  obtain ⟨ws, j1, j2, r0, y1, cell, y2, y3, y4, y5⟩ := hcl.obj hci
  cases y1.symm.trans f1
  have hg := C0.2.2.2.2.2.2.2.2.2.2.2.1
  have hin : ∀ u ∈ u_ws q.1 q.2.1 q.2.2, u ∈ jgw := fun u hu => jgw_of (w1 u hu) (jgoodU _ _ _ u hu)
  have hK := hg.2.2.2.2.2.1
  have hap := va_apart (own := Y.1.1.cls) (hg.ts args) hin ty0 hty hnm hK f1
  obtain ⟨hSl, hfc, kC, hkC, hkind⟩ := hK.1 ci _ f1
  obtain ⟨cf, kf, fi, f, hi, hsl⟩ := hSl k f2
  have hlay := hg.ts args _ (hin _ (u_in_lay f2))
  unfold u_lay at hlay
  rw [if_neg (by rw [f5]; decide)] at hlay
  have hst' := (u_facts hfc hkC (u_lays (hg.ts args) hin f2) hi).1
  have h6 := u_store hfc hkC hkind hlay hi f4 (hv L w hw).1 (hv L w hw).2
  refine W.putK C0.1 C0.2.1 (f := f) ⟨C0.2.2.2.2.1, hg.1 _ f3 rfl args, ⟨_, _, _, hi⟩, hst'⟩ (by rw [y3]; exact h6) y2 y4 (by rw [hsl]; exact k2_hasslot (y5 k f2)) rfl rfl hd fun H' e1 e2 e3 => ?_
  rw [hsl] at e1 ⊢
  have hkw : k < ws.length := by rw [j1.len]; exact hk
  refine kk p e R s m args below meth c A H' _ cells slots C S L0 L lsR sr C0 (hR.set ha (by rw [hc]; exact Nat.ne_of_lt (by omega)) (Nat.ne_of_lt (by omega)) ⟨_, j1.set k hw, Or.inl ⟨hci, j2, _, f1, t_OB.to (V := updV (vp_V ws) k w) ⟨_, e1, y3, y4, t_set y5 hap f2 w⟩ (fun j _ => vp_updV_set hkw w j)⟩⟩ e3) hL (hS.put e2 e3 j2) hl q1 h1 h2 h3 h4
theorem J_putF {r ci k idx : Nat} {fs : List Value} {v : Value} {ty : FieldType} (hd : decode Y.1.2.1 pc = .ok (.putfield idx, 3)) (hini : Y.1.1.name = "<init>") (hfo : ∀ q : vw_C, vwCl[ci]? = some q → (q.2.1 k).1 = Y.1.1.cls) (hf : jfl Y.1.1.cls idx ci k ty true) (hc : h r = (ci, fs)) (hk : k < fs.length) (hv : jfit ty v) (kk : jJ l G Y d bc bs n (pc + 3) ls st (jup h r (ci, fs.set k v)) K) : jJ l G Y d bc bs n pc ls (v :: .ref r :: st) h K := by
  intro p e R s m args below meth c A H locs cells slots C S L0 L lsR stR C0 hR hL hS hl hst h1 h2 h3 h4
  obtain ⟨q, f1, f2, f3, f4, f5⟩ := hf
  have f6 := hfo q f1
  obtain ⟨w1, ⟨ty0, hty⟩, hnm, hci⟩ := jcls f1
  obtain ⟨w, sr0, e0, hw, q0⟩ := hst.c
  obtain ⟨a, sr, e1, ha, q1⟩ := q0.r
  subst e1; subst e0
  have hcl := hR.2.2 r a ha
  rw [hc] at hcl
  obtain ⟨ws, j1, j2, r0, y1, cell, y2, y3, y4, y5⟩ := hcl.obj hci
  cases y1.symm.trans f1
  have hg := C0.2.2.2.2.2.2.2.2.2.2.2.1
  have hin : ∀ u ∈ u_ws q.1 q.2.1 q.2.2, u ∈ jgw := fun u hu => jgw_of (w1 u hu) (jgoodU _ _ _ u hu)
  have hK := hg.2.2.2.2.2.1
  have hap := va_apart (own := Y.1.1.cls) (hg.ts args) hin ty0 hty hnm hK f1
  obtain ⟨hSl, hfc, kC, hkC, hkind⟩ := hK.1 ci _ f1
  obtain ⟨cf, kf, fi, f, hi, hsl⟩ := hSl k f2
  have hlay := hg.ts args _ (hin _ (u_in_lay f2))
  unfold u_lay at hlay
  rw [if_pos f5] at hlay
  have hst' := (u_facts hfc hkC (u_lays (hg.ts args) hin f2) hi).1
  have hcf : m.cls = cf := by
    obtain ⟨_, _, c', _, _, _, -, -, hf', -, -, -, hown2, -⟩ := Cond.laysFinal_spec hlay
    have e1 : c' = cf := by have := hi.symm.trans hf'; simp at this; exact this.1.symm
    rw [f6] at hown2
    rw [← e1]; exact Option.some.inj (C0.2.2.2.2.1.symm.trans hown2)
  have h6 := u_fits hfc hkC hkind (Or.inr hlay) hi f4 (hv L w hw).1 (hv L w hw).2
  refine W.putFinK C0.1 C0.2.1 C0.2.2.2.2.1 (hg.1 _ f3 rfl args) hi hst' hcf (C0.2.2.2.2.2.2.1.trans hini) (by rw [y3]; exact h6) y2 y4 (by rw [hsl]; exact k2_hasslot (y5 k f2)) rfl rfl hd fun H' e1 e2 e3 => ?_
  rw [hsl] at e1 ⊢
  have hkw : k < ws.length := by rw [j1.len]; exact hk
  refine kk p e R s m args below meth c A H' _ cells slots C S L0 L lsR sr C0 (hR.set ha (by rw [hc]; exact Nat.ne_of_lt (by omega)) (Nat.ne_of_lt (by omega)) ⟨_, j1.set k hw, Or.inl ⟨hci, j2, _, f1, t_OB.to (V := updV (vp_V ws) k w) ⟨_, e1, y3, y4, t_set y5 hap f2 w⟩ (fun j _ => vp_updV_set hkw w j)⟩⟩ e3) hL (hS.put e2 e3 j2) hl q1 h1 h2 h3 h4
end JF
