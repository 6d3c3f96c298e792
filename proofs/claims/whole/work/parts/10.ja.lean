theorem jarrT {G : jG} {s : State} (hK : va_K G.1 vwCl (jtys G) s) {ci : Nat} (hc : 10 ≤ ci ∧ ci < 14) : ArrOfT s (G.2 ci) (jty ci) ∧ va_RA s (G.2 ci) (jty ci) := by
  match ci, hc with
  | 10, _ => exact hK.2 0 _ rfl
  | 11, _ => exact hK.2 1 _ rfl
  | 12, _ => exact hK.2 2 _ rfl
  | 13, _ => exact hK.2 3 _ rfl
  | 0, h | 1, h | 2, h | 3, h | 4, h | 5, h | 6, h | 7, h | 8, h | 9, h => omega
  | k + 14, h => omega
theorem vp_V_of {ws : List Value} {k : Nat} {w : Value} (h : ws[k]? = some w) : vp_V ws k = w := by simp [vp_V, List.getD, h]
theorem jarr_set {c : ClassId} {ws : List Value} {k : Nat} (hk : k < ws.length) (v : Value) : (arrV c ws.length (vp_V ws)).setSlot k v = arrV c (ws.set k v).length (vp_V (ws.set k v)) := by
  rw [arrV_store, List.length_set]
  congr 1
  funext j
  exact vp_updV_set hk v j
theorem jin {cA : ClassId} {ws : List Value} {i : Int32} (h0 : ¬ i < 0) (hl : i.toNatClampNeg < ws.length) : ¬ (i < 0 ∨ (arrV cA ws.length (vp_V ws)).slots.size ≤ i.toNatClampNeg) := by
  rw [arrV_size]; rintro (q | q)
  · exact h0 q
  · omega
section JA
variable {l : Launch} {G : jG} {Y : jY} {d bc bs n pc : Nat} {ls : List (Option Value)} {st : List Value} {h : jH} {K : jK}
theorem J_iald {r : Nat} {vs : List Value} {i : Int32} {v : Value} (hd : decode Y.1.2.1 pc = .ok (.iaload, 1)) (hc : h r = (10, vs)) (hi : ¬ i < 0) (hv : vs[i.toNatClampNeg]? = some v) (kk : jJ l G Y d bc bs n (pc + 1) ls (v :: st) h K) : jJ l G Y d bc bs n pc ls (.int i :: .ref r :: st) h K := by
  intro p e R s m args below meth c A H locs cells slots C S L0 L lsR stR C0 hR hL hS hl hst h1 h2 h3 h4
  obtain ⟨sr0, e0, q0⟩ := hst.i
  obtain ⟨a, sr, e1, ha, q1⟩ := q0.r
  subst e1; subst e0
  have hcl := hR.2.2 r a ha
  rw [hc] at hcl
  obtain ⟨ws, j1, j2, j3⟩ := hcl.arr (by decide)
  obtain ⟨w, x1, x2⟩ := j1.get hv
  have hlt := (List.getElem?_eq_some_iff.mp x1).1
  have hT := jarrT C0.2.2.2.2.2.2.2.2.2.2.2.1.2.2.2.2.2.1 (ci := 10) (by decide)
  exact W.iald C0.1 C0.2.1 j3 (hT.1 _ _) (fun q => by cases q) (jin hi hlt) (by rw [arrV_read _ _ hlt, vp_V_of x1]) rfl rfl hd (kk p e R s m args below meth c A H locs cells slots C S L0 L lsR (w :: sr) C0 hR hL hS hl ⟨_, _, rfl, x2, q1⟩ h1 h2 h3 h4)
theorem J_zald {r : Nat} {vs : List Value} {i : Int32} {v : Value} (hd : decode Y.1.2.1 pc = .ok (.baload, 1)) (hc : h r = (12, vs)) (hi : ¬ i < 0) (hv : vs[i.toNatClampNeg]? = some v) (kk : jJ l G Y d bc bs n (pc + 1) ls (v :: st) h K) : jJ l G Y d bc bs n pc ls (.int i :: .ref r :: st) h K := by
  intro p e R s m args below meth c A H locs cells slots C S L0 L lsR stR C0 hR hL hS hl hst h1 h2 h3 h4
  obtain ⟨sr0, e0, q0⟩ := hst.i
  obtain ⟨a, sr, e1, ha, q1⟩ := q0.r
  subst e1; subst e0
  have hcl := hR.2.2 r a ha
  rw [hc] at hcl
  obtain ⟨ws, j1, j2, j3⟩ := hcl.arr (by decide)
  obtain ⟨w, x1, x2⟩ := j1.get hv
  have hlt := (List.getElem?_eq_some_iff.mp x1).1
  have hT := jarrT C0.2.2.2.2.2.2.2.2.2.2.2.1.2.2.2.2.2.1 (ci := 12) (by decide)
  exact W.zald C0.1 C0.2.1 j3 (hT.1 _ _) (fun q => by cases q) (jin hi hlt) (by rw [arrV_read _ _ hlt, vp_V_of x1]) rfl rfl hd (kk p e R s m args below meth c A H locs cells slots C S L0 L lsR (w :: sr) C0 hR hL hS hl ⟨_, _, rfl, x2, q1⟩ h1 h2 h3 h4)
theorem J_lald {r : Nat} {vs : List Value} {i : Int32} {v : Value} (hd : decode Y.1.2.1 pc = .ok (.laload, 1)) (hc : h r = (11, vs)) (hi : ¬ i < 0) (hv : vs[i.toNatClampNeg]? = some v) (kk : jJ l G Y d bc bs n (pc + 1) ls (v :: st) h K) : jJ l G Y d bc bs n pc ls (.int i :: .ref r :: st) h K := by
  intro p e R s m args below meth c A H locs cells slots C S L0 L lsR stR C0 hR hL hS hl hst h1 h2 h3 h4
  obtain ⟨sr0, e0, q0⟩ := hst.i
  obtain ⟨a, sr, e1, ha, q1⟩ := q0.r
  subst e1; subst e0
  have hcl := hR.2.2 r a ha
  rw [hc] at hcl
  obtain ⟨ws, j1, j2, j3⟩ := hcl.arr (by decide)
  obtain ⟨w, x1, x2⟩ := j1.get hv
  have hlt := (List.getElem?_eq_some_iff.mp x1).1
  have hT := jarrT C0.2.2.2.2.2.2.2.2.2.2.2.1.2.2.2.2.2.1 (ci := 11) (by decide)
  exact W.lald C0.1 C0.2.1 j3 (hT.1 _ _) (fun q => by cases q) (jin hi hlt) (by rw [arrV_read _ _ hlt, vp_V_of x1]) rfl rfl hd (kk p e R s m args below meth c A H locs cells slots C S L0 L lsR (w :: sr) C0 hR hL hS hl ⟨_, _, rfl, x2, q1⟩ h1 h2 h3 h4)
theorem J_aald {r : Nat} {vs : List Value} {i : Int32} {v : Value} (hd : decode Y.1.2.1 pc = .ok (.aaload, 1)) (hc : h r = (13, vs)) (hi : ¬ i < 0) (hv : vs[i.toNatClampNeg]? = some v) (kk : jJ l G Y d bc bs n (pc + 1) ls (v :: st) h K) : jJ l G Y d bc bs n pc ls (.int i :: .ref r :: st) h K := by
  intro p e R s m args below meth c A H locs cells slots C S L0 L lsR stR C0 hR hL hS hl hst h1 h2 h3 h4
  obtain ⟨sr0, e0, q0⟩ := hst.i
  obtain ⟨a, sr, e1, ha, q1⟩ := q0.r
  subst e1; subst e0
  have hcl := hR.2.2 r a ha
  rw [hc] at hcl
  obtain ⟨ws, j1, j2, j3⟩ := hcl.arr (by decide)
  obtain ⟨w, x1, x2⟩ := j1.get hv
  have hlt := (List.getElem?_eq_some_iff.mp x1).1
  have hT := jarrT C0.2.2.2.2.2.2.2.2.2.2.2.1.2.2.2.2.2.1 (ci := 13) (by decide)
  exact W.aald C0.1 C0.2.1 j3 (hT.1 _ _) rfl (fun q => by cases q) (jin hi hlt) (by rw [arrV_read _ _ hlt, vp_V_of x1]) rfl rfl hd (kk p e R s m args below meth c A H locs cells slots C S L0 L lsR (w :: sr) C0 hR hL hS hl ⟨_, _, rfl, x2, q1⟩ h1 h2 h3 h4)
theorem J_iast {r : Nat} {vs : List Value} {i : Int32} {x : Int32} (hd : decode Y.1.2.1 pc = .ok (.iastore, 1)) (hc : h r = (10, vs)) (hi : ¬ i < 0) (hv : i.toNatClampNeg < vs.length) (kk : jJ l G Y d bc bs n (pc + 1) ls st (jup h r (10, vs.set i.toNatClampNeg (.int x))) K) : jJ l G Y d bc bs n pc ls (.int x :: .int i :: .ref r :: st) h K := by
  intro p e R s m args below meth c A H locs cells slots C S L0 L lsR stR C0 hR hL hS hl hst h1 h2 h3 h4
  obtain ⟨sr1, e3, q3⟩ := hst.i
  obtain ⟨sr0, e0, q0⟩ := q3.i
  obtain ⟨a, sr, e1, ha, q1⟩ := q0.r
  subst e1; subst e0; subst e3
  have hcl := hR.2.2 r a ha
  rw [hc] at hcl
  obtain ⟨ws, j1, j2, j3⟩ := hcl.arr (by decide)
  have hlt : i.toNatClampNeg < ws.length := by rw [j1.len]; exact hv
  have hT := jarrT C0.2.2.2.2.2.2.2.2.2.2.2.1.2.2.2.2.2.1 (ci := 10) (by decide)
  refine W.iast C0.1 C0.2.1 j3 (hT.1 _ _) (fun q => by cases q) (jin hi hlt) rfl rfl hd fun H' e1 e2 e3 => ?_
  rw [jarr_set hlt] at e1
  exact kk p e R s m args below meth c A H' _ cells slots C S L0 L lsR sr C0 (hR.set ha (by rw [hc]; show 10 ≠ 30; decide) (by show 10 ≠ 30; decide) ⟨_, j1.set _ rfl, Or.inr (Or.inl ⟨(by decide : 10 ≤ 10), (by decide : 10 < 14), j2, e1⟩)⟩ e3) hL (hS.put e2 e3 j2) hl q1 h1 h2 h3 h4
theorem J_zast {r : Nat} {vs : List Value} {i : Int32} {x : Int32} (hd : decode Y.1.2.1 pc = .ok (.bastore, 1)) (hx : x = 0 ∨ x = 1) (hc : h r = (12, vs)) (hi : ¬ i < 0) (hv : i.toNatClampNeg < vs.length) (kk : jJ l G Y d bc bs n (pc + 1) ls st (jup h r (12, vs.set i.toNatClampNeg (.int x))) K) : jJ l G Y d bc bs n pc ls (.int x :: .int i :: .ref r :: st) h K := by
  intro p e R s m args below meth c A H locs cells slots C S L0 L lsR stR C0 hR hL hS hl hst h1 h2 h3 h4
  obtain ⟨sr1, e3, q3⟩ := hst.i
  obtain ⟨sr0, e0, q0⟩ := q3.i
  obtain ⟨a, sr, e1, ha, q1⟩ := q0.r
  subst e1; subst e0; subst e3
  have hcl := hR.2.2 r a ha
  rw [hc] at hcl
  obtain ⟨ws, j1, j2, j3⟩ := hcl.arr (by decide)
  have hlt : i.toNatClampNeg < ws.length := by rw [j1.len]; exact hv
  have hT := jarrT C0.2.2.2.2.2.2.2.2.2.2.2.1.2.2.2.2.2.1 (ci := 12) (by decide)
  have hnx : narrow .boolean (.int x) = .int x := by rcases hx with e | e <;> rw [e] <;> decide
  refine W.zast C0.1 C0.2.1 j3 (hT.1 _ _) (fun q => by cases q) (jin hi hlt) rfl rfl hd fun H' e1 e2 e3 => ?_
  rw [hnx] at e1
  rw [jarr_set hlt] at e1
  exact kk p e R s m args below meth c A H' _ cells slots C S L0 L lsR sr C0 (hR.set ha (by rw [hc]; show 12 ≠ 30; decide) (by show 12 ≠ 30; decide) ⟨_, j1.set _ rfl, Or.inr (Or.inl ⟨(by decide : 10 ≤ 12), (by decide : 12 < 14), j2, e1⟩)⟩ e3) hL (hS.put e2 e3 j2) hl q1 h1 h2 h3 h4
theorem J_last {r : Nat} {vs : List Value} {i : Int32} {x : Int64} (hd : decode Y.1.2.1 pc = .ok (.lastore, 1)) (hc : h r = (11, vs)) (hi : ¬ i < 0) (hv : i.toNatClampNeg < vs.length) (kk : jJ l G Y d bc bs n (pc + 1) ls st (jup h r (11, vs.set i.toNatClampNeg (.long x))) K) : jJ l G Y d bc bs n pc ls (.long x :: .int i :: .ref r :: st) h K := by
  intro p e R s m args below meth c A H locs cells slots C S L0 L lsR stR C0 hR hL hS hl hst h1 h2 h3 h4
  obtain ⟨sr1, e3, q3⟩ := hst.lg
  obtain ⟨sr0, e0, q0⟩ := q3.i
  obtain ⟨a, sr, e1, ha, q1⟩ := q0.r
  subst e1; subst e0; subst e3
  have hcl := hR.2.2 r a ha
  rw [hc] at hcl
  obtain ⟨ws, j1, j2, j3⟩ := hcl.arr (by decide)
  have hlt : i.toNatClampNeg < ws.length := by rw [j1.len]; exact hv
  have hT := jarrT C0.2.2.2.2.2.2.2.2.2.2.2.1.2.2.2.2.2.1 (ci := 11) (by decide)
  refine W.last C0.1 C0.2.1 j3 (hT.1 _ _) (fun q => by cases q) (jin hi hlt) rfl rfl hd fun H' e1 e2 e3 => ?_
  rw [jarr_set hlt] at e1
  exact kk p e R s m args below meth c A H' _ cells slots C S L0 L lsR sr C0 (hR.set ha (by rw [hc]; show 11 ≠ 30; decide) (by show 11 ≠ 30; decide) ⟨_, j1.set _ rfl, Or.inr (Or.inl ⟨(by decide : 10 ≤ 11), (by decide : 11 < 14), j2, e1⟩)⟩ e3) hL (hS.put e2 e3 j2) hl q1 h1 h2 h3 h4
theorem J_aast {r v ci : Nat} {vs fs : List Value} {i : Int32} (hd : decode Y.1.2.1 pc = .ok (.aastore, 1)) (hc : h r = (13, vs)) (hcv : h v = (4, fs)) (hi : ¬ i < 0) (hv : i.toNatClampNeg < vs.length) (kk : jJ l G Y d bc bs n (pc + 1) ls st (jup h r (13, vs.set i.toNatClampNeg (.ref v))) K) : jJ l G Y d bc bs n pc ls (.ref v :: .int i :: .ref r :: st) h K := by
  intro p e R s m args below meth c A H locs cells slots C S L0 L lsR stR C0 hR hL hS hl hst h1 h2 h3 h4
  obtain ⟨av, sr1, e3, hav, q3⟩ := hst.r
  obtain ⟨sr0, e0, q0⟩ := q3.i
  obtain ⟨a, sr, e1, ha, q1⟩ := q0.r
  subst e1; subst e0; subst e3
  have hcl := hR.2.2 r a ha
  rw [hc] at hcl
  obtain ⟨ws, j1, j2, j3⟩ := hcl.arr (by decide)
  have hlt : i.toNatClampNeg < ws.length := by rw [j1.len]; exact hv
  have hK := C0.2.2.2.2.2.2.2.2.2.2.2.1.2.2.2.2.2.1
  have hT := jarrT hK (ci := 13) (by decide)
  have hcv' := hR.2.2 v av hav
  rw [hcv] at hcv'
  obtain ⟨wv, -, -, rv, y1, cellV, g1, g2, g3, -⟩ := hcv'.obj (by decide)
  have hcls := (hK.1 4 _ rfl).2
  obtain ⟨kA, comp, k1, k2, k3, -⟩ := hT.2
  have hcomp : comp = G.1.1 4 := Option.some.inj (k3.symm.trans hcls.1)
  subst hcomp
  obtain ⟨kC, hkC, -⟩ := hcls.2
  refine W.aast C0.1 C0.2.1 j3 (fun q h => by cases h) (fun h => by cases h) k1 k2 rfl hkC ⟨hi, by rw [arrV_size]; exact hlt⟩ g1 (fun q h => by rw [g3] at h; cases h) (by rw [g2]; exact hkC) (by rw [g2]; exact va_assign hcls) rfl rfl hd fun H' e1 e2 e3 => ?_
  rw [jarr_set hlt] at e1
  exact kk p e R s m args below meth c A H' _ cells slots C S L0 L lsR sr C0 (hR.set ha (by rw [hc]; show 13 ≠ 30; decide) (by show 13 ≠ 30; decide) ⟨_, j1.set _ ⟨av, hav, rfl⟩, Or.inr (Or.inl ⟨(by decide : 10 ≤ 13), (by decide : 13 < 14), j2, e1⟩)⟩ e3) hL (hS.put e2 e3 j2) hl q1 h1 h2 h3 h4
theorem J_alen {r ci : Nat} {vs : List Value} (hd : decode Y.1.2.1 pc = .ok (.arraylength, 1)) (hc : h r = (ci, vs)) (hci : 10 ≤ ci ∧ ci < 14) (kk : jJ l G Y d bc bs n (pc + 1) ls (.int (nI vs.length) :: st) h K) : jJ l G Y d bc bs n pc ls (.ref r :: st) h K := by
  intro p e R s m args below meth c A H locs cells slots C S L0 L lsR stR C0 hR hL hS hl hst h1 h2 h3 h4
  obtain ⟨a, sr, e1, ha, q1⟩ := hst.r
  subst e1
  have hcl := hR.2.2 r a ha
  rw [hc] at hcl
  obtain ⟨ws, j1, j2, j3⟩ := hcl.arr hci
  have hT := jarrT C0.2.2.2.2.2.2.2.2.2.2.2.1.2.2.2.2.2.1 hci
  exact W.alen (n := nI vs.length) C0.1 C0.2.1 j3 (hT.1 _ _) (by rw [arrV_size, j1.len]; rfl) rfl rfl hd (kk p e R s m args below meth c A H locs cells slots C S L0 L lsR (.int (nI vs.length) :: sr) C0 hR hL hS hl q1.ic h1 h2 h3 h4)
theorem jcl.scr {G : jG} {A : Nat → Prop} {s : State} {L : List Nat} {H : Heap} {a : Nat} {fs : List Value} (h : jcl G A s L H a (20, fs)) : ∃ ws, jvs L fs ws ∧ ∃ scr : Cell, H[a]? = some scr ∧ s.isArrayOf scr .int ∧ scr.vm ≠ .unknown ∧ scr.slots.size = ws.length ∧ ∀ j, j < ws.length → scr.slots[j]? = some (vp_V ws j) := by
  obtain ⟨ws, h1, h2⟩ := h
  rcases h2 with ⟨x, y, z⟩ | ⟨x, x', y, z⟩ | ⟨x, y⟩ | x
  · exact absurd (show 20 < 8 from x) (by decide)
  · exact absurd (show 20 < 14 from x') (by decide)
  · exact ⟨ws, h1, y⟩
  · exact absurd (show 20 = 30 from x) (by decide)
theorem J_slen {r : Nat} {vs : List Value} (hd : decode Y.1.2.1 pc = .ok (.arraylength, 1)) (hc : h r = (20, vs)) (kk : jJ l G Y d bc bs n (pc + 1) ls (.int (nI vs.length) :: st) h K) : jJ l G Y d bc bs n pc ls (.ref r :: st) h K := by
  intro p e R s m args below meth c A H locs cells slots C S L0 L lsR stR C0 hR hL hS hl hst h1 h2 h3 h4
  obtain ⟨a, sr, e1, ha, q1⟩ := hst.r
  subst e1
  have hcl := hR.2.2 r a ha
  rw [hc] at hcl
  obtain ⟨ws, j1, scr, y1, y2, y3, y4, y5⟩ := hcl.scr
  exact W.alen (n := nI vs.length) C0.1 C0.2.1 y1 y2 (by rw [y4, j1.len]; rfl) rfl rfl hd (kk p e R s m args below meth c A H locs cells slots C S L0 L lsR (.int (nI vs.length) :: sr) C0 hR hL hS hl q1.ic h1 h2 h3 h4)
theorem J_sald {r : Nat} {vs : List Value} {i : Int32} {v : Value} (hd : decode Y.1.2.1 pc = .ok (.iaload, 1)) (hc : h r = (20, vs)) (hi : ¬ i < 0) (hv : vs[i.toNatClampNeg]? = some v) (kk : jJ l G Y d bc bs n (pc + 1) ls (v :: st) h K) : jJ l G Y d bc bs n pc ls (.int i :: .ref r :: st) h K := by
  intro p e R s m args below meth c A H locs cells slots C S L0 L lsR stR C0 hR hL hS hl hst h1 h2 h3 h4
  obtain ⟨sr0, e0, q0⟩ := hst.i
  obtain ⟨a, sr, e1, ha, q1⟩ := q0.r
  subst e1; subst e0
  have hcl := hR.2.2 r a ha
  rw [hc] at hcl
  obtain ⟨ws, j1, scr, y1, y2, y3, y4, y5⟩ := hcl.scr
  obtain ⟨w, x1, x2⟩ := j1.get hv
  have hlt := (List.getElem?_eq_some_iff.mp x1).1
  exact W.iald (v := w) C0.1 C0.2.1 y1 y2 y3 (by rw [y4]; rintro (q | q); exact hi q; omega) (by rw [y5 _ hlt, vp_V_of x1]) rfl rfl hd (kk p e R s m args below meth c A H locs cells slots C S L0 L lsR (w :: sr) C0 hR hL hS hl ⟨_, _, rfl, x2, q1⟩ h1 h2 h3 h4)
/-- the entry idx of own's pool is the kind ci, which can be made; fs: its fields at first -/
def jnw (own : String) (idx ci N : Nat) (fs : List Value) : Prop :=
  ∃ q : vw_C, vwCl[ci]? = some q ∧ q.2.2 = N ∧ Cond.classLink own idx q.1 ∈ lw_tbl ∧ Cond.instantiable q.1 N ∈ lw_tbl ∧ Cond.initialized q.1 ∈ lw_tbl ∧ ∃ ty : Nat → FieldType, (∀ k, k < N → parseFieldDescriptor (q.2.1 k).2.2.1 = some (ty k)) ∧ (∀ j, j < N → defaultValue (ty j) = vp_V fs j) ∧ ∀ (L : List Nat), jvs L fs fs
theorem J_new {idx ci N : Nat} {fs : List Value} (hd : decode Y.1.2.1 pc = .ok (.new idx, 3)) (hn : jnw Y.1.1.cls idx ci N fs) (kk : jJ l G Y d bc bs (n + 1) (pc + 3) ls (.ref n :: st) (jup h n (ci, fs)) K) : jJ l G Y d (bc + 1) (bs + N) n pc ls st h K := by
  intro p e R s m args below meth c A H locs cells slots C S L0 L lsR stR C0 hR hL hS hl hst h1 h2 h3 h4
  obtain ⟨q, f1, f2, f3, f4, f5, ty, f6, f7, f8⟩ := hn
  subst f2
  obtain ⟨w1, -, -, hci⟩ := jcls f1
  have hg := C0.2.2.2.2.2.2.2.2.2.2.2.1
  have hK := hg.2.2.2.2.2.1
  have hKn := hK.1 ci _ f1
  have hin : ∀ u ∈ u_ws q.1 q.2.1 q.2.2, u ∈ jgw := fun u hu => jgw_of (w1 u hu) (jgoodU _ _ _ u hu)
  refine W.newcK C0.1 C0.2.1 C0.2.2.2.2.1 (hg.1 _ f3 rfl args) (hg.1 _ f4 rfl args) (hg.1 _ f5 rfl args) rfl hd (by omega) (by omega) hKn.2.1 rfl fun H1 kC hkC e1 z1 o1 => ?_
  have hAn : A H.size := C0.2.2.2.2.2.2.2.2.2.2.2.2 _ hS.1
  have hS1 : va_S A s.heap H1 locs := ⟨Nat.le_trans hS.1 (by omega), fun x g1 g2 => (o1 x (Nat.lt_of_lt_of_le g1 hS.1)).trans (hS.2.1 x g1 g2), hS.2.2⟩
  have hln : L.length = n := hR.1
  refine kk p e R s m args below meth c A H1 locs (cells + 1) (slots + q.2.2) C S L0 (L ++ [H.size]) lsR (.ref H.size :: stR) C0 (hR.push rfl ⟨fs, f8 _, Or.inl ⟨hci, hAn, q, f1, (u_born ty (hg.ts args) hin hKn hkC e1 f6).to f7⟩⟩ o1) (hL.tr (jle.push _)) hS1 ⟨hl.1, hl.2.1, fun i v z => by obtain ⟨w, g1, g2⟩ := hl.2.2 i v z; exact ⟨w, g1.mono (jle.push _), g2⟩⟩ ⟨_, _, rfl, ⟨H.size, by rw [← hln]; simp, rfl⟩, hst.mono (jle.push _)⟩ (by omega) (by omega) h3 h4
theorem J_newa {at0 : ArrayType} {ci N : Nat} {x : Int32} {dv : Value} (hd : decode Y.1.2.1 pc = .ok (.newarray at0, 2)) (hci : 10 ≤ ci ∧ ci < 13) (hty : newarray.typeOf at0 = jty ci) (hw : Cond.arrayClass (jty ci) ∈ lw_tbl) (hx : ¬ x < 0) (hN : x.toNatClampNeg = N) (hb : N * componentBytes (jty ci) ≤ 536870912) (hdv : defaultValue (jty ci) = dv) (hdr : ∀ L, jv L dv dv) (kk : jJ l G Y d bc bs (n + 1) (pc + 2) ls (.ref n :: st) (jup h n (ci, List.replicate N dv)) K) : jJ l G Y d (bc + 1) (bs + N) n pc ls (.int x :: st) h K := by
  intro p e R s m args below meth c A H locs cells slots C S L0 L lsR stR C0 hR hL hS hl hst h1 h2 h3 h4
  obtain ⟨sr, e0, q0⟩ := hst.i
  subst e0
  have hg := C0.2.2.2.2.2.2.2.2.2.2.2.1
  have hT := jarrT hg.2.2.2.2.2.1 (ci := ci) ⟨hci.1, by omega⟩
  refine va_newaK C0.1 C0.2.1 (by rw [hty]; exact hg.1 _ hw rfl args) rfl hd rfl hx hN (by rw [hty]; exact hb) (by omega) (by omega) rfl fun H1 cA e1 z1 o1 hAr hfc => ?_
  rw [hty] at e1 hfc
  have hcA : cA = G.2 ci := by
    have h9 := hT.2
    match ci, hci with
    | 10, _ => exact Option.some.inj (hfc.symm.trans h9)
    | 11, _ => exact Option.some.inj (hfc.symm.trans h9)
    | 12, _ => exact Option.some.inj (hfc.symm.trans h9)
    | 0, h | 1, h | 2, h | 3, h | 4, h | 5, h | 6, h | 7, h | 8, h | 9, h => omega
    | k + 13, h => omega
  subst hcA
  rw [hdv] at e1
  have hAn : A H.size := C0.2.2.2.2.2.2.2.2.2.2.2.2 _ hS.1
  have hS1 : va_S A s.heap H1 locs := ⟨Nat.le_trans hS.1 (by omega), fun x g1 g2 => (o1 x (Nat.lt_of_lt_of_le g1 hS.1)).trans (hS.2.1 x g1 g2), hS.2.2⟩
  have hln : L.length = n := hR.1
  have hrep : ∀ (L : List Nat) (k : Nat), jvs L (List.replicate k dv) (List.replicate k dv) := fun L k => by
    induction k with
    | zero => exact rfl
    | succ k ih => exact ⟨dv, _, rfl, hdr L, ih⟩
  have e2 : H1[H.size]? = some (arrV (G.2 ci) (List.replicate N dv).length (vp_V (List.replicate N dv))) := by
    rw [e1, List.length_replicate]
    refine congrArg some ?_
    unfold arrV
    congr 1
    refine Array.ext (by simp) fun i g1 g2 => ?_
    simp [vp_V, List.getD] at g1 ⊢
  refine kk p e R s m args below meth c A H1 locs (cells + 1) (slots + N) C S L0 (L ++ [H.size]) lsR (.ref H.size :: sr) C0 (hR.push rfl ⟨_, hrep _ N, Or.inr (Or.inl ⟨hci.1, by show ci < 14; omega, hAn, e2⟩)⟩ o1) (hL.tr (jle.push _)) hS1 ⟨hl.1, hl.2.1, fun i v z => by obtain ⟨w, g1, g2⟩ := hl.2.2 i v z; exact ⟨w, g1.mono (jle.push _), g2⟩⟩ ⟨_, _, rfl, ⟨H.size, by rw [← hln]; simp, rfl⟩, q0.mono (jle.push _)⟩ (by omega) (by omega) h3 h4
theorem J_anew {idx N : Nat} {x : Int32} (hd : decode Y.1.2.1 pc = .ok (.anewarray idx, 3)) (hw : Cond.classLink Y.1.1.cls idx "InterchangeDesk$Table" ∈ lw_tbl) (hx : ¬ x < 0) (hN : x.toNatClampNeg = N) (hb : N * 4 ≤ 536870912) (kk : jJ l G Y d bc bs (n + 1) (pc + 3) ls (.ref n :: st) (jup h n (13, List.replicate N .null)) K) : jJ l G Y d (bc + 1) (bs + N) n pc ls (.int x :: st) h K := by
  intro p e R s m args below meth c A H locs cells slots C S L0 L lsR stR C0 hR hL hS hl hst h1 h2 h3 h4
  obtain ⟨sr, e0, q0⟩ := hst.i
  subst e0; subst hN
  have hg := C0.2.2.2.2.2.2.2.2.2.2.2.1
  have hT := jarrT hg.2.2.2.2.2.1 (ci := 13) (by decide)
  refine W.anew C0.1 C0.2.1 C0.2.2.2.2.1 (hg.1 _ hw rfl args) hg.2.2.2.2.2.2.2.2.2.2.use rfl hd rfl hx hb (by omega) (by omega) fun cA kA comp y1 y2 y3 y4 => ?_
  have hcA : cA = G.2 13 := by
    obtain ⟨kA', comp', k1, k2, k3, k4⟩ := hT.2
    exact Option.some.inj (y1.symm.trans k4)
  subst hcA
  rw [arrV_new]
  have hAn : A H.size := C0.2.2.2.2.2.2.2.2.2.2.2.2 _ hS.1
  have o1 : ∀ q, q < H.size → (H.push (arrV (G.2 13) x.toNatClampNeg (fun _ => .null)))[q]? = H[q]? := fun q hq => by
    rw [Array.getElem?_push]; simp [Nat.ne_of_lt hq]
  have hS1 : va_S A s.heap (H.push (arrV (G.2 13) x.toNatClampNeg (fun _ => .null))) locs := ⟨Nat.le_trans hS.1 (by simp), fun x g1 g2 => (o1 x (Nat.lt_of_lt_of_le g1 hS.1)).trans (hS.2.1 x g1 g2), hS.2.2⟩
  have hln : L.length = n := hR.1
  have hrep : ∀ (L : List Nat) (k : Nat), jvs L (List.replicate k .null) (List.replicate k .null) := fun L k => by
    induction k with
    | zero => exact rfl
    | succ k ih => exact ⟨.null, _, rfl, rfl, ih⟩
  have e2 : (H.push (arrV (G.2 13) x.toNatClampNeg (fun _ => .null)))[H.size]? = some (arrV (G.2 13) (List.replicate x.toNatClampNeg Value.null).length (vp_V (List.replicate x.toNatClampNeg .null))) := by
    rw [Array.getElem?_push_size, List.length_replicate]
    refine congrArg some ?_
    unfold arrV
    congr 1
    refine Array.ext (by simp) fun i g1 g2 => ?_
    simp [vp_V, List.getD] at g1 ⊢
  refine kk p e R s m args below meth c A _ locs (cells + 1) (slots + x.toNatClampNeg) C S L0 (L ++ [H.size]) lsR (.ref H.size :: sr) C0 (hR.push rfl ⟨_, hrep _ x.toNatClampNeg, Or.inr (Or.inl ⟨(by decide : 10 ≤ 13), (by decide : 13 < 14), hAn, e2⟩)⟩ o1) (hL.tr (jle.push _)) hS1 ⟨hl.1, hl.2.1, fun i v z => by obtain ⟨w, g1, g2⟩ := hl.2.2 i v z; exact ⟨w, g1.mono (jle.push _), g2⟩⟩ ⟨_, _, rfl, ⟨H.size, by rw [← hln]; simp, rfl⟩, q0.mono (jle.push _)⟩ (by omega) (by omega) h3 h4
theorem J_objInit {idx r : Nat} (hd : decode Y.1.2.1 pc = .ok (.invokespecial idx, 3)) (hw : Cond.methodLink Y.1.1.cls idx objectInit ∈ lw_tbl) (hw2 : Cond.instanceMethod objectInit ∈ lw_tbl) (hw3 : Cond.code objectInit ⟨#[0xb1]⟩ 1 none ∈ lw_tbl) (hd1 : 1 ≤ d) (hs : (st.map fun v => v.category).sum ≤ 8) (kk : jJ l G Y d bc bs n (pc + 3) ls st h K) : jJ l G Y d bc bs n pc ls (.ref r :: st) h K := by
  intro p e R s m args below meth c A H locs cells slots C S L0 L lsR stR C0 hR hL hS hl hst h1 h2 h3 h4
  obtain ⟨a, sr, e1, ha, q1⟩ := hst.r
  subst e1
  have hg := C0.2.2.2.2.2.2.2.2.2.2.2.1
  have hfr := C0.2.2.2.2.2.2.2.2.2.1
  have hlo := C0.2.2.2.2.2.2.2.2.2.2.1
  have hw8 : (sr.map fun v => v.category).sum ≤ 8 := by rw [q1.cat]; exact hs
  refine W.objInit C0.1 C0.2.1 C0.2.2.2.2.1 (hg.1 _ hw rfl args) (hg.1 _ hw2 rfl args) (hg.1 _ hw3 rfl args) rfl (by rw [C0.2.2.2.1]; exact hl.1) rfl hd (by omega) ?_ ?_
  · have := lv_room (m := m) (pc := pc) (ls := lsR) (rest := sr) hw8
    have h9 : 2 * (F0 m pc lsR (.ref a :: sr)).monitorRoom + (sr.map fun v => v.category).sum ≤ 8 := lv_room hw8
    omega
  · exact kk p e R s m args below meth c A H locs cells slots C S L0 L lsR sr C0 hR hL hS hl q1 h1 h2 h3 h4
end JA
