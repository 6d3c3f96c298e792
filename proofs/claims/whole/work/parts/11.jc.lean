/-! calls -/
theorem jRel.own {G : jG} {A : Nat → Prop} {s U : State} {L : List Nat} {n : Nat} {h : jH} {H : Heap} (sz : Nat) (hs : s.vm.Alike U.vm) (hR : jRel G A s L n h H) : jRel G (jA L h sz) U L n h H := by
  refine ⟨hR.1, hR.2.1, fun k a ha => ?_⟩
  obtain ⟨ws, g1, g2⟩ := hR.2.2 k a ha
  refine ⟨ws, g1, ?_⟩
  rcases g2 with ⟨x, y, z⟩ | ⟨x, x', y, z⟩ | ⟨x, scr, y1, y2, y3⟩ | x
  · exact Or.inl ⟨x, Or.inl ⟨k, ha, by omega⟩, z⟩
  · exact Or.inr (Or.inl ⟨x, x', Or.inl ⟨k, ha, x'⟩, z⟩)
  · exact Or.inr (Or.inr (Or.inl ⟨x, scr, y1, State.isArrayOf_alike hs y2, y3⟩))
  · exact Or.inr (Or.inr (Or.inr x))
theorem jRel.sub {G : jG} {A : Nat → Prop} {s : State} {L : List Nat} {n : Nat} {h : jH} {H : Heap} {locs : List Loc} (hR : jRel G A s L n h H) (hS : va_S A s.heap H locs) (hA : ∀ q, s.heap.size ≤ q → A q) : ∀ q, jA L h H.size q → A q := by
  rintro q (⟨k, hk, hk2⟩ | hq)
  · obtain ⟨ws, g1, g2⟩ := hR.2.2 k q hk
    rcases g2 with ⟨x, y, z⟩ | ⟨x, x', y, z⟩ | ⟨x, scr, y1, y2, y3⟩ | x
    · exact y
    · exact y
    · omega
    · omega
  · exact hA q (Nat.le_trans hS.1 hq)
def jflat (vs : List Value) : List (Option Value) := vs.flatMap fun v => if v.category = 2 then [some v, none] else [some v]
def jent (vs : List Value) (nL : Nat) : List (Option Value) := jflat vs ++ List.replicate (nL - (jflat vs).length) none
theorem jflat_len {L : List Nat} : ∀ {vs ws : List Value}, jvs L vs ws → (lg_sl ws).length = (jflat vs).length
  | [], _, h => by rw [show _ = [] from h]; rfl
  | v :: vs, _, ⟨w, ws', e, h1, h2⟩ => by
    subst e
    have ih := jflat_len h2
    simp only [lg_sl, jflat, List.flatMap_cons, List.length_append] at ih ⊢
    rw [h1.cat, ih]
    split <;> rfl
theorem jflat_get {L : List Nat} : ∀ {vs ws : List Value}, jvs L vs ws → ∀ (i : Nat) (v : Value), (jflat vs)[i]? = some (some v) → ∃ w, jv L v w ∧ (lg_sl ws)[i]? = some (.val w)
  | [], _, h, i, v, hv => by simp [jflat] at hv
  | x :: vs, _, ⟨w, ws', e, h1, h2⟩, i, v, hv => by
    subst e
    have ih := jflat_get h2
    simp only [jflat, lg_sl, List.flatMap_cons] at hv ⊢ ih
    rw [h1.cat]
    split at hv <;> rename_i hcat
    · simp only [hcat, if_true]
      match i, hv with
      | 0, hv => simp at hv; subst hv; exact ⟨w, h1, by simp⟩
      | 1, hv => simp at hv
      | i + 2, hv =>
        obtain ⟨w', g1, g2⟩ := ih i v (by simpa using hv)
        exact ⟨w', g1, by simpa using g2⟩
    · simp only [hcat, if_false]
      match i, hv with
      | 0, hv => simp at hv; subst hv; exact ⟨w, h1, by simp⟩
      | i + 1, hv =>
        obtain ⟨w', g1, g2⟩ := ih i v (by simpa using hv)
        exact ⟨w', g1, by simpa using g2⟩
theorem jent_lv {L : List Nat} {vs ws : List Value} {nL : Nat} (hv : jvs L vs ws) (hn : (jflat vs).length ≤ nL) : jlv L (jent vs nL) ((lg_sl ws ++ List.replicate (nL - (lg_sl ws).length) Slot.unset).toArray) nL := by
  have hlen := jflat_len hv
  have h0 := lv_entry ws (n := nL) (by rw [hlen]; exact hn)
  refine ⟨h0.1, h0.2.1, fun i v hi => ?_⟩
  rcases Nat.lt_or_ge i (jflat vs).length with q | q
  · rw [jent, List.getElem?_append_left q] at hi
    obtain ⟨w, g1, g2⟩ := jflat_get hv i v hi
    refine ⟨w, g1, ?_⟩
    rw [List.getElem?_toArray, List.getElem?_append_left (by rw [hlen]; exact q)]
    exact g2
  · rw [jent, List.getElem?_append_right q] at hi
    have := List.mem_of_getElem? hi
    have := List.eq_of_mem_replicate this
    cases this
section JM
variable {l : Launch} {G : jG}
/-- a method's walk from its entry is its contract -/
theorem jJ.met {Y : jM} {d bc bs n : Nat} {vs : List Value} {h : jH} {K : jK} (hl : l.stackTraces = false) (hpl : plainName Y.1.cls = true) (hn : (jflat vs).length ≤ Y.2.2.1) (k : jJ l G (Y, []) d bc bs n 0 (jent vs Y.2.2.1) [] h K)
    {L : List Nat} {ws : List Value} (hv : jvs L vs ws) (sz : Nat) :
    vx_Met l Y.1 [.code Y.1 Y.2.1 Y.2.2.1 Y.2.2.2] { frames := d, cells := bc, slots := bs, locals := 32 * d } (jPc G L n h ws sz) (jQ G (jA L h sz) L K) (jX G (jA L h sz) L K) bc bs (jA L h sz) := by
  refine vx_ofW (cc := Y.2.1) (maxL := Y.2.2.1) (ret := Y.2.2.2) hpl rfl ?_
  intro p e s m args below meth c s₁ B hml hex hpc
  obtain ⟨rfl, hsz, hg, hR⟩ := hpc
  rw [lg_entry_eq]
  have hemp : c.exceptionTable.toList = [] := by
    cases hh : c.exceptionTable.toList with
    | nil => rfl
    | cons x xs => exact (hex x (by rw [hh]; exact List.mem_cons_self)).elim
  refine k p e _ s m _ below meth c (jA L h sz) s.heap [] 0 0 bc bs L L _ [] ⟨B.exec, B.bytes, B.returns, hml, findClass_of_methodNamed B.named, B.notSynchronized, (name_of_methodNamed B.named B.method).1, by rw [hemp]; rfl, hl, Nat.le_refl _, Nat.le_refl _, hg, fun q hq => Or.inr (hsz ▸ hq)⟩ hR jle.rf va_S.rf (jent_lv hv hn) rfl (by omega) (by omega) (Nat.le_refl _) (Nat.le_refl _)
/-- it doesn't throw -/
theorem vx_nothrow {y : MethodName} {ws : List Cond} {rm : Room} {Pc : Array Value → State → Prop} {Qc : Array Value → State → Outcome → State → Prop} {XC : String → State → State → Prop} {mc ms : Nat} {free : Addr → Prop} (h : vx_Met l y ws rm Pc Qc XC mc ms free) (hX : ∀ E st t, ¬ XC E st t) : Met l y ws rm Pc Qc mc ms free := by
  intro p e ha hc hk s m args below hf happ hP hK
  obtain ⟨n, o, h1, h2, h3, h4⟩ := h p e ha hc hk s m args below hf happ hP hK
  refine ⟨n, o, h1, h2, h3, ?_⟩
  rcases h4 with q | ⟨q, _, E, ce, L, hx, _⟩
  · exact q
  · exact (hX _ _ _ hx).elim
end JM
/-- what is common to all calls of Y: its code, its class, its parameters -/
def jcal (Y : jM) (na : Nat) : Prop :=
  Cond.code Y.1 Y.2.1 Y.2.2.1 Y.2.2.2 ∈ lw_tbl ∧ Cond.initialized Y.1.cls ∈ lw_tbl ∧ (Y.1.cls ≠ "java/lang/invoke/MethodHandle" ∧ Y.1.cls ≠ "java/lang/invoke/VarHandle") ∧ (parseMethodDescriptor Y.1.desc).map (fun d => d.parameters.length) = some na ∧ plainName Y.1.cls = true ∧ Y.2.2.1 ≤ 13
/-- an invokevirtual of Y on the kind ci -/
def jvir (own : String) (idx ci : Nat) (Y : jM) (na : Nat) : Prop :=
  jcal Y na ∧ (∃ q : vw_C, vwCl[ci]? = some q ∧ q.1 = Y.1.cls) ∧ Cond.methodLink own idx Y.1 ∈ lw_tbl ∧ Cond.instanceMethod Y.1 ∈ lw_tbl ∧ Cond.selects Y.1.cls Y.1 Y.1 ∈ lw_tbl
theorem jcal.len {Y : jM} {na : Nat} (h : jcal Y na) : ∀ sig, parseMethodDescriptor Y.1.desc = some sig → na = sig.parameters.length := fun sig hs => by
  have h2 := h.2.2.2.1
  rw [hs] at h2
  exact (Option.some.inj h2).symm
section JC
variable {l : Launch} {G : jG} {Y : jY} {d bc bs n pc : Nat} {ls : List (Option Value)} {st : List Value} {h : jH} {K : jK}
/-- the callee's start, out of the caller's -/
theorem jpre {A : Nat → Prop} {s : State} {L : List Nat} {H : Heap} {locs : List Loc} {ws : List Value} (hg : jg G A s) (hR : jRel G A s L n h H) (hS : va_S A s.heap H locs) (hA : ∀ q, s.heap.size ≤ q → A q) : ∀ U : State, U.heap = H → s.WarmedH U.vm → jPc G L n h ws H.size ws.toArray U := fun U hU hW =>
  ⟨rfl, by rw [hU], hg.next hW hU hS (hR.sub hS hA), by rw [hU]; exact hR.own _ hW.alike⟩
theorem J_callV {idx r ci d' bc' bs' : Nat} {Y' : jM} {fs As : List Value} {ls0 : List (Option Value)} {K' : jK} (hd : decode Y.1.2.1 pc = .ok (.invokevirtual idx, 3)) (hv : jvir Y.1.1.cls idx ci Y' As.length) (hc : h r = (ci, fs)) (hls : ls0 = jent (.ref r :: As) Y'.2.2.1) (hn : (jflat (.ref r :: As)).length ≤ Y'.2.2.1) (hdd : d' + 1 ≤ d) (hw : (st.map fun v => v.category).sum ≤ 8)
    (hM : jJ l G (Y', []) d' bc' bs' n 0 ls0 [] h K')
    (kx : ∀ E n' h', K' (.inr E) n' h' → K (.inr E) n' h' ∧ Y.2 = [])
    (kk : ∀ v n' h', K' (.inl v) n' h' → jJ l G Y d bc bs n' (pc + 3) ls (v.toList ++ st) h' K) : jJ l G Y d (bc + bc') (bs + bs') n pc ls (As.reverse ++ .ref r :: st) h K := by
  intro p e R s m args below meth c A H locs cells slots C S L0 L lsR stR C0 hR hL hS hl hst h1 h2 h3 h4
  subst hls
  obtain ⟨w1, w2, e0, q1, q2⟩ := hst.split
  obtain ⟨a, sr, e1, ha, q3⟩ := q2.r
  subst e1; subst e0
  have qA : jvs L As w1.reverse := by have := q1.rev; rwa [List.reverse_reverse] at this
  have hcl := hR.2.2 r a ha
  rw [hc] at hcl
  obtain ⟨hcal, ⟨q, f1, f2⟩, v1, v2, v3⟩ := hv
  obtain ⟨-, -, -, hci⟩ := jcls f1
  obtain ⟨wf, -, -, r0, y1, cell, y2, y3, y4, -⟩ := hcl.obj hci
  have hg := C0.2.2.2.2.2.2.2.2.2.2.2.1
  have hA := C0.2.2.2.2.2.2.2.2.2.2.2.2
  have hvs : jvs L (.ref r :: As) (.ref a :: w1.reverse) := ⟨_, _, rfl, ⟨a, ha, rfl⟩, qA⟩
  have hMet := hM.met C0.2.2.2.2.2.2.2.2.1 hcal.2.2.2.2.1 hn hvs H.size
  have hfr := C0.2.2.2.2.2.2.2.2.2.1
  have hlo := C0.2.2.2.2.2.2.2.2.2.2.1
  have hlen : w1.reverse.length = As.length := qA.len
  have hrun := vx_runV (Ts := jgw) (n := As.length) (g := F0 m pc lsR (w1 ++ .ref a :: sr)) (b := a) (As := w1.reverse) (rest := sr) (own := Y.1.1.cls) (C := Y'.1.cls) (e := e) (below := below) (meth := meth) (locs := locs) (cells := cells) (slots := slots) ⟨C0.1, C0.2.1, C0.2.2.2.1, C0.2.2.2.2.1, hg.ts args⟩ hMet
    (R := R) ⟨⟨rfl, rfl, by show d' + 1 ≤ R.frames; omega, by show 8 + (Y'.2.2.1 + 11) + 32 * d' ≤ R.locals; have := hcal.2.2.2.2.2; omega, fun w hw a' U hW => by rw [List.mem_singleton.mp hw]; exact word_at hW (good_of_word rfl) (hg.1 _ hcal.1 rfl args), List.mem_singleton.mpr rfl, hg.1 _ hcal.1 rfl args, hg.1 _ hcal.2.1 rfl args, hcal.2.2.1, hcal.len, hg.1 _ v1 rfl args⟩, hg.1 _ v2 rfl args, hg.1 _ v3 rfl args⟩
    ⟨jPc.blind, ⟨cell, y2, by rw [y4]; rfl, by rw [y3, ← f2]; exact (hg.2.2.2.2.2.1.1 ci q f1).2.1⟩, jpre hg hR hS hA⟩ rfl hlen hl.1 (by rw [List.reverse_reverse]) (lv_room (by rw [q3.cat]; exact hw)) hd ⟨by omega, by omega⟩
  have hsub := hR.sub hS hA
  intro T hT X
  rcases hrun T hT X with ⟨v, st₀, t, T', Lc, g0, X', hLc, e1, e2, ⟨v0, v', L', n', h', z1, z2, z3, z4, z5, z6⟩, stp⟩ | ⟨qx, st₀, t, T', Lc, E, ce, g0, X', hLc, e1, e2, ⟨L', n', h', z3, z4, z5, z6⟩, hce, hcv, hcls, stp⟩
  · cases z1
    obtain ⟨k1, k2, k3⟩ := vx_keep g0 e1 hS (fun q _ hq => hsub q hq) hsub hLc z6
    have hal : t.vm.Alike s.vm := by rw [← e2]; exact X'.warmed.alike.symm
    have hR' : jRel G A s L' n' h' T'.heap := by rw [e1]; exact z5.mono hsub hal
    have hres : jvs L' (v0.toList ++ st) (v.toList ++ sr) := by
      cases v0 with
      | none => rw [show v = none from z2]; exact q3.mono z4
      | some u => obtain ⟨w', g1, g2⟩ := z2; subst g1; exact ⟨w', sr, rfl, g2, q3.mono z4⟩
    obtain ⟨t2, a1, b1⟩ := kk v0 n' h' z3 p e R s m args below meth c A T'.heap (locs ++ Lc) (cells + bc') (slots + bs') C S L0 L' lsR (v.toList ++ sr) C0 hR' (hL.tr z4) k3 ⟨hl.1, hl.2.1, fun i v z => by obtain ⟨w, g1, g2⟩ := hl.2.2 i v z; exact ⟨w, g1.mono z4, g2⟩⟩ hres (by omega) (by omega) h3 h4 T' rfl X'
    exact ⟨t2, stp t2 a1, b1⟩
  · obtain ⟨k1, k2, k3⟩ := vx_keep g0 e1 hS (fun q _ hq => hsub q hq) hsub hLc z6
    have hal : t.vm.Alike s.vm := by rw [← e2]; exact X'.warmed.alike.symm
    obtain ⟨kx1, kx2⟩ := kx E n' h' z3
    have hemp : c.exceptionTable.toList = [] := by
      have h9 := C0.2.2.2.2.2.2.2.1
      rw [kx2] at h9
      exact List.map_eq_nil_iff.mp h9
    obtain ⟨t2, a1, b1⟩ := vx_out (p := p) (l := l) (e := e) (R := R) (s := s) (m := m) (args := args) (below := below) (meth := meth) (c := c) (H := T'.heap) (locs := locs ++ Lc) (cells := cells + bc') (slots := slots + bs') (Qc := jQ G A L0 K) (XC := jX G A L0 K) (free := A) (mc := C) (ms := S) (pc := pc) (ls := lsR) (rest := sr) (q := qx) (ce := ce) (E := E) (by rw [hemp]; intro x hx; cases hx) C0.2.2.2.2.2.1 (by rw [e1]; exact hce) hcv hcls
      (fun t' ht' ha' => ⟨L', n', h', kx1, hL.tr z4, by rw [ht', e1]; exact z5.mono hsub (hal.trans ha'), k3.F ht'⟩) k3.2.2 (by omega) (by omega) T' rfl X'
    exact ⟨t2, stp.trans a1, b1⟩
end JC
