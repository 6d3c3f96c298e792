theorem jx_caught {tb : Tables} {e : Env} {s target : State} {g : JFrame} {c : Code} {below : List Frame} {a : Addr} (h : At s g.method c below) {t : Nat} {vm' : Vm}
    (hf : ∀ (Q : Handler → Pre) (E : CtlPost) (d : Bool) (acts : List Action), wp (findHandler g a) Q E e d acts ((s.setTop g).pushFrame (.throwing a)) ↔ Q (.found t) d acts (((s.setTop g).pushFrame (.throwing a)).setVm vm'))
    (hrest : Steps tb e below ((s.setVm vm').setTop { g with pc := t, stack := [.ref a] }) target) : Steps tb e below ((s.setTop g).pushFrame (.throwing a)) target := by
  obtain ⟨hgo, hw⟩ := h.throwing a
  refine Steps.head hgo hw ?_
  rw [stepThread_throwing (frames_entered h.top _), (jx_step (s := (s.setTop g).pushFrame (.throwing a)) hf).1]
  obtain ⟨g₀, hg⟩ := Option.isSome_iff_exists.mp h.top
  obtain ⟨r, hr⟩ := State.topJava?_eq_some.mp hg
  have hr2 : (s.setVm vm').frames = .java g₀ :: r := hr
  rw [State.setTop_of_frames _ hr2] at hrest
  rw [State.pushFrame, State.setTop_of_frames _ hr, State.setFrames_setFrames]
  rw [hr]
  have e1 : ((s.setFrames (Frame.throwing a :: (s.setFrames (Frame.java g :: r)).frames)).setVm vm').setFrames (Frame.java { g with pc := t, stack := [.ref a] } :: r) = (s.setVm vm').setFrames (.java { g with pc := t, stack := [.ref a] } :: r) := by
    show ((s.setVm vm').setFrames (Frame.throwing a :: (s.setFrames (Frame.java g :: r)).frames)).setFrames _ = _
    rw [State.setFrames_setFrames]
  exact e1 ▸ hrest
theorem jRel.junk {G : jG} {A : Nat → Prop} {s : State} {L : List Nat} {n : Nat} {h : jH} {H : Heap} (hR : jRel G A s L n h H) (q : Nat) : jRel G A s (L ++ [q]) (n + 1) (jup h n (30, [])) H := by
  obtain ⟨r1, r2, r3⟩ := hR
  have hin : ∀ (k b : Nat), (L ++ [q])[k]? = some b → (k < n ∧ L[k]? = some b) ∨ k = n := fun k b hk => by
    rcases Nat.lt_or_ge k n with z | z
    · rw [List.getElem?_append_left (by omega)] at hk; exact Or.inl ⟨z, hk⟩
    · have := (List.getElem?_eq_some_iff.mp hk).1
      simp at this
      exact Or.inr (by omega)
  refine ⟨by simp [r1], fun i j b hi hj h1 h2 => ?_, fun k b hk => ?_⟩
  · rcases hin i b h1 with ⟨p1, p2⟩ | p1 <;> rcases hin j b h2 with ⟨q1, q2⟩ | q1
    · rw [jup_ne (by omega)] at hi hj; exact r2 i j b hi hj p2 q2
    · rw [q1, jup_same] at hj; exact absurd rfl hj
    · rw [p1, jup_same] at hi; exact absurd rfl hi
    · omega
  · rcases hin k b hk with ⟨p1, p2⟩ | p1
    · rw [jup_ne (by omega)]
      exact (r3 k b p2).mono (fun _ z => z) (Vm.Alike.refl _) (jle.push q)
    · subst p1
      rw [jup_same]; exact ⟨[], rfl, Or.inr (Or.inr (Or.inr rfl))⟩
section JXC
variable {l : Launch} {G : jG} {Y : jY} {d bc bs n pc : Nat} {ls : List (Option Value)} {st : List Value} {h : jH} {K : jK}
/-- a call in a method with a table: what the callee throws is caught here -/
theorem J_callVX {idx r ci d' bc' bs' : Nat} {Y' : jM} {fs As : List Value} {ls0 : List (Option Value)} {K' : jK} (hd : decode Y.1.2.1 pc = .ok (.invokevirtual idx, 3)) (hv : jvir Y.1.1.cls idx ci Y' As.length) (hc : h r = (ci, fs)) (hls : ls0 = jent (.ref r :: As) Y'.2.2.1) (hn : (jflat (.ref r :: As)).length ≤ Y'.2.2.1) (hdd : d' + 1 ≤ d) (hw : (st.map fun v => v.category).sum ≤ 8)
    (hM : jJ l G (Y', []) d' bc' bs' n 0 ls0 [] h K')
    (kx : ∀ E n' h', K' (.inr E) n' h' → ∃ t, jcat Y.1.1.cls pc E Y.2 t ∧ jJ l G Y d bc bs (n' + 1) t ls [.ref n'] (jup h' n' (30, [])) K)
    (kk : ∀ v n' h', K' (.inl v) n' h' → jJ l G Y d bc bs n' (pc + 3) ls (v.toList ++ st) h' K) : jJ l G Y d (bc + bc') (bs + bs') n pc ls (As.reverse ++ .ref r :: st) h K := by
  intro p e R s m args below meth c A H locs cells slots C S L0 L lsR stR C0 hR hL hS hl hst h1 h2 h3 h4
  subst hls
  obtain ⟨w1, w2, e0, q1, q2⟩ := hst.split
  obtain ⟨a, sr, e1, ha, q3⟩ := q2.r
  subst e1; subst e0
  have qA : jvs L As w1.reverse := by have := q1.rev; rwa [List.reverse_reverse] at this
  have hcl := hR.2.2 r a ha
  rw [hc] at hcl
  obtain ⟨hcal, ⟨q, f1, f2⟩, v1, v2, v3⟩ := hv
  obtain ⟨-, -, -, hci⟩ := jcls f1
  obtain ⟨wf, -, -, r0, y1, cell, y2, y3, y4, -⟩ := hcl.obj hci
  have hg := C0.2.2.2.2.2.2.2.2.2.2.2.1
  have hA := C0.2.2.2.2.2.2.2.2.2.2.2.2
  have hvs : jvs L (.ref r :: As) (.ref a :: w1.reverse) := ⟨_, _, rfl, ⟨a, ha, rfl⟩, qA⟩
  have hMet := hM.met C0.2.2.2.2.2.2.2.2.1 hcal.2.2.2.2.1 hn hvs H.size
  have hfr := C0.2.2.2.2.2.2.2.2.2.1
  have hlo := C0.2.2.2.2.2.2.2.2.2.2.1
  have hlen : w1.reverse.length = As.length := qA.len
  have hrun := vx_runV (Ts := jgw) (n := As.length) (g := F0 m pc lsR (w1 ++ .ref a :: sr)) (b := a) (As := w1.reverse) (rest := sr) (own := Y.1.1.cls) (C := Y'.1.cls) (e := e) (below := below) (meth := meth) (locs := locs) (cells := cells) (slots := slots) ⟨C0.1, C0.2.1, C0.2.2.2.1, C0.2.2.2.2.1, hg.ts args⟩ hMet
    (R := R) ⟨⟨rfl, rfl, by show d' + 1 ≤ R.frames; omega, by show 8 + (Y'.2.2.1 + 11) + 32 * d' ≤ R.locals; have := hcal.2.2.2.2.2; omega, fun w hw a' U hW => by rw [List.mem_singleton.mp hw]; exact word_at hW (good_of_word rfl) (hg.1 _ hcal.1 rfl args), List.mem_singleton.mpr rfl, hg.1 _ hcal.1 rfl args, hg.1 _ hcal.2.1 rfl args, hcal.2.2.1, hcal.len, hg.1 _ v1 rfl args⟩, hg.1 _ v2 rfl args, hg.1 _ v3 rfl args⟩
    ⟨jPc.blind, ⟨cell, y2, by rw [y4]; rfl, by rw [y3, ← f2]; exact (hg.2.2.2.2.2.1.1 ci q f1).2.1⟩, jpre hg hR hS hA⟩ rfl hlen hl.1 (by rw [List.reverse_reverse]) (lv_room (by rw [q3.cat]; exact hw)) hd ⟨by omega, by omega⟩
  have hsub := hR.sub hS hA
  intro T hT X
  rcases hrun T hT X with ⟨v, st₀, t, T', Lc, g0, X', hLc, e1, e2, ⟨v0, v', L', n', h', z1, z2, z3, z4, z5, z6⟩, stp⟩ | ⟨qx, st₀, t, T', Lc, E, ce, g0, X', hLc, e1, e2, ⟨L', n', h', z3, z4, z5, z6⟩, hce, hcv, hcls, stp⟩
  · cases z1
    obtain ⟨k1, k2, k3⟩ := vx_keep g0 e1 hS (fun q _ hq => hsub q hq) hsub hLc z6
    have hal : t.vm.Alike s.vm := by rw [← e2]; exact X'.warmed.alike.symm
    have hR' : jRel G A s L' n' h' T'.heap := by rw [e1]; exact z5.mono hsub hal
    have hres : jvs L' (v0.toList ++ st) (v.toList ++ sr) := by
      cases v0 with
      | none => rw [show v = none from z2]; exact q3.mono z4
      | some u => obtain ⟨w', g1, g2⟩ := z2; subst g1; exact ⟨w', sr, rfl, g2, q3.mono z4⟩
    obtain ⟨t2, a1, b1⟩ := kk v0 n' h' z3 p e R s m args below meth c A T'.heap (locs ++ Lc) (cells + bc') (slots + bs') C S L0 L' lsR (v.toList ++ sr) C0 hR' (hL.tr z4) k3 ⟨hl.1, hl.2.1, fun i v z => by obtain ⟨w, g1, g2⟩ := hl.2.2 i v z; exact ⟨w, g1.mono z4, g2⟩⟩ hres (by omega) (by omega) h3 h4 T' rfl X'
    exact ⟨t2, stp t2 a1, b1⟩
  · obtain ⟨k1, k2, k3⟩ := vx_keep g0 e1 hS (fun q _ hq => hsub q hq) hsub hLc z6
    have hal : t.vm.Alike s.vm := by rw [← e2]; exact X'.warmed.alike.symm
    obtain ⟨tg, hcat, hJ⟩ := kx E n' h' z3
    have hR' : jRel G A s L' n' h' T'.heap := by rw [e1]; exact z5.mono hsub hal
    have hpl : e.platform.magicAccessors = ({} : Platform).magicAccessors := by rw [X'.admits.platform]
    have hceT : T'.heap[qx]? = some ce := by rw [e1]; exact hce
    have htab := C0.2.2.2.2.2.2.2.1
    obtain ⟨vm', hWv, hfind⟩ := jx_go (f := F0 m pc lsR sr) (a := qx) hpl hg C0.2.2.2.2.1 hcv hcls c.exceptionTable.toList tg ((T'.setTop (F0 m pc lsR sr)).pushFrame (.throwing qx)) (by rw [htab]; exact hcat) X'.warmed hceT
    have hLn : L'.length = n' := hR'.1
    have hle : jle L' (L' ++ [qx]) := jle.push qx
    have X'' := X'.noted hWv
    obtain ⟨t2, a1, b1⟩ := hJ p e R s m args below meth c A T'.heap (locs ++ Lc) (cells + bc') (slots + bs') C S L0 (L' ++ [qx]) lsR [.ref qx] C0 (hR'.junk qx) (hL.tr (z4.tr hle)) k3 ⟨hl.1, hl.2.1, fun i v z => by obtain ⟨w, g1, g2⟩ := hl.2.2 i v z; exact ⟨w, g1.mono (z4.tr hle), g2⟩⟩ ⟨_, _, rfl, ⟨qx, by rw [← hLn]; simp, rfl⟩, rfl⟩ (by omega) (by omega) h3 h4 (T'.setVm vm') rfl X''
    refine ⟨t2, stp.trans (jx_caught (g := F0 m pc lsR sr) (c := c) X'.here (fun Q E d acts => ?_) a1), b1⟩
    rw [W.findHandler_eq (meth := meth) (code := c) X'.method' X'.code]
    exact hfind Q E d acts
end JXC
section JMW
variable {l : Launch} {G : jG}
theorem jJ.metW {Y : jM} {hh : List (Nat × Nat × Nat × Nat)} {d bc bs n : Nat} {vs : List Value} {h : jH} {K : jK} (hl : l.stackTraces = false) (hpl : plainName Y.1.cls = true) (hn : (jflat vs).length ≤ Y.2.2.1) (k : jJ l G (Y, hh) d bc bs n 0 (jent vs Y.2.2.1) [] h K)
    {L : List Nat} {ws : List Value} (hv : jvs L vs ws) (sz : Nat) :
    vx_Met l Y.1 [.codeWith Y.1 Y.2.1 Y.2.2.1 Y.2.2.2 hh] { frames := d, cells := bc, slots := bs, locals := 32 * d } (jPc G L n h ws sz) (jQ G (jA L h sz) L K) (jX G (jA L h sz) L K) bc bs (jA L h sz) := by
  refine vx_ofWH (cc := Y.2.1) (maxL := Y.2.2.1) (ret := Y.2.2.2) (hh := hh) hpl rfl ?_
  intro p e s m args below meth c s₁ B hml hpc
  obtain ⟨rfl, hsz, hg, hR⟩ := hpc
  rw [lg_entry_eq]
  have htab : c.exceptionTable.toList.map (fun x => (x.startPc, x.endPc, x.handlerPc, x.catchType)) = hh := by
    obtain ⟨m9, meth9, c9, hn9, g1, g2, -, -, g3, -⟩ := Cond.codeWith_spec (atoms_spec (ws := [.codeWith Y.1 Y.2.1 Y.2.2.1 Y.2.2.2 hh]) B.pre _ (List.mem_singleton.mpr rfl))
    cases B.named.symm.trans hn9
    cases B.method.symm.trans g1
    cases (Stand.of_body B).code.symm.trans g2
    exact g3
  refine k p e _ s m _ below meth c (jA L h sz) s.heap [] 0 0 bc bs L L _ [] ⟨B.exec, B.bytes, B.returns, hml, findClass_of_methodNamed B.named, B.notSynchronized, (name_of_methodNamed B.named B.method).1, htab, hl, Nat.le_refl _, Nat.le_refl _, hg, fun q hq => Or.inr (hsz ▸ hq)⟩ hR jle.rf va_S.rf (jent_lv hv hn) rfl (by omega) (by omega) (Nat.le_refl _) (Nat.le_refl _)
end JMW
def jstW (own : String) (idx : Nat) (Y : jM) (hh : List (Nat × Nat × Nat × Nat)) (na : Nat) : Prop :=
  Cond.codeWith Y.1 Y.2.1 Y.2.2.1 Y.2.2.2 hh ∈ lw_tbl ∧ Cond.initialized Y.1.cls ∈ lw_tbl ∧ (Y.1.cls ≠ "java/lang/invoke/MethodHandle" ∧ Y.1.cls ≠ "java/lang/invoke/VarHandle") ∧ (parseMethodDescriptor Y.1.desc).map (fun d => d.parameters.length) = some na ∧ plainName Y.1.cls = true ∧ Y.2.2.1 ≤ 13 ∧ Cond.methodLink own idx Y.1 ∈ lw_tbl ∧ Cond.static Y.1 ∈ lw_tbl
section JSW
variable {l : Launch} {G : jG} {Y : jY} {d bc bs n pc : Nat} {ls : List (Option Value)} {st : List Value} {h : jH} {K : jK}
theorem J_callSW {idx d' bc' bs' : Nat} {Y' : jM} {hh : List (Nat × Nat × Nat × Nat)} {As : List Value} {ls0 : List (Option Value)} {K' : jK} (hd : decode Y.1.2.1 pc = .ok (.invokestatic idx, 3)) (hv : jstW Y.1.1.cls idx Y' hh As.length) (hls : ls0 = jent As Y'.2.2.1) (hn : (jflat As).length ≤ Y'.2.2.1) (hdd : d' + 1 ≤ d) (hw : (st.map fun v => v.category).sum ≤ 8)
    (hM : jJ l G (Y', hh) d' bc' bs' n 0 ls0 [] h K') (kx : ∀ E n' h', ¬ K' (.inr E) n' h')
    (kk : ∀ v n' h', K' (.inl v) n' h' → jJ l G Y d bc bs n' (pc + 3) ls (v.toList ++ st) h' K) : jJ l G Y d (bc + bc') (bs + bs') n pc ls (As.reverse ++ st) h K := by
  intro p e R s m args below meth c A H locs cells slots C S L0 L lsR stR C0 hR hL hS hl hst h1 h2 h3 h4
  subst hls
  obtain ⟨w1, w2, e0, q1, q2⟩ := hst.split
  subst e0
  have qA : jvs L As w1.reverse := by have := q1.rev; rwa [List.reverse_reverse] at this
  have hg := C0.2.2.2.2.2.2.2.2.2.2.2.1
  have hA := C0.2.2.2.2.2.2.2.2.2.2.2.2
  obtain ⟨y1, y2, y3, y4, y5, y6, y7, y8⟩ := hv
  have hMet := vx_nothrow (hM.metW C0.2.2.2.2.2.2.2.2.1 y5 hn qA H.size) (fun E st t hx => by obtain ⟨_, _, _, z, _⟩ := hx; exact kx _ _ _ z)
  have hfr := C0.2.2.2.2.2.2.2.2.2.1
  have hlo := C0.2.2.2.2.2.2.2.2.2.2.1
  refine jrun (bc' := bc') (bs' := bs') (av := w1.reverse.toArray) C0 hR hL hS hl h1 h2 h3 h4 q2 ?_ kk
  refine vx_runSW (Ts := jgw) (n := As.length) (As := w1.reverse) (rest := w2) (own := Y.1.1.cls) (hh := hh) ⟨C0.1, C0.2.1, C0.2.2.2.1, C0.2.2.2.2.1, hg.ts args⟩ hMet
    ⟨⟨rfl, rfl, by show d' + 1 ≤ R.frames; omega, by show 8 + (Y'.2.2.1 + 11) + 32 * d' ≤ R.locals; omega, fun w hw a' U hW => by rw [List.mem_singleton.mp hw]; exact word_at hW (good_of_word rfl) (hg.1 _ y1 rfl args), List.mem_singleton.mpr rfl⟩, hg.1 _ y1 rfl args, hg.1 _ y2 rfl args, y3, fun sig hs => by rw [hs] at y4; exact (Option.some.inj y4).symm, hg.1 _ y7 rfl args, hg.1 _ y8 rfl args⟩
    ⟨jPc.blind, jpre hg hR hS hA⟩ rfl qA.len hl.1 (by rw [List.reverse_reverse]) (lv_room (by rw [q2.cat]; exact hw)) hd ⟨by omega, by omega⟩
end JSW
