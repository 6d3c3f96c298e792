/-- what a method may rely on, whoever calls it: the tables' words, the kinds, the statics that an exception's making reads -/
def jg (G : jG) (A : Nat → Prop) (s : State) : Prop :=
  (∀ w ∈ lw_tbl, goodWord w = true → ∀ args, w.before args s = true) ∧
  (∀ a i x b, Cond.methodLinkNest a i x b ∈ lw_tbl → va_Nw (.methodLinkNest a i x b) s) ∧
  (∀ o k tx, Cond.stringRef o k tx ∈ lw_tbl → ∃ sa, vk_R o k tx sa s) ∧
  vx_Zq Bundle.tN "UNASSIGNED_STACK" Bundle.steD A s s.heap ∧ vx_Zq Bundle.tN "SUPPRESSED_SENTINEL" Bundle.listD A s s.heap ∧
  va_K G.1 vwCl (jtys G) s ∧
  va_Nc "java/lang/IllegalStateException" "java/lang/IllegalArgumentException" s ∧ va_Nc "java/lang/UnsupportedOperationException" "java/lang/IllegalArgumentException" s ∧
  (∀ C T, Cond.castable C T ∈ lw_tbl → va_Nw (.castable C T) s) ∧ (∀ x, Cond.declares x ∈ lw_tbl → va_Nw (.declares x) s) ∧ va_AO "InterchangeDesk$Table" s
theorem jg.next {G : jG} {A B : Nat → Prop} {s U : State} {H : Heap} {locs : List Loc} (h : jg G A s) (hW : s.WarmedH U.vm) (hH : U.heap = H) (hS : va_S A s.heap H locs) (hB : ∀ q, B q → A q) : jg G B U := by
  obtain ⟨h1, h2, h3, h4, h5, h6, h7, h8, h9, h10, h11⟩ := h
  refine ⟨fun w hw hg a => word_at hW (good_of_word hg) (h1 w hw hg #[]), fun a i x b hm => va_Nw.warmM hW (h2 a i x b hm), fun o k tx hm => ?_, ?_, ?_, va_K.moved hW.alike h6, h7.moved hW.alike, h8.moved hW.alike, fun C T hm => va_Nw.warmC hW (h9 C T hm), fun x hm => va_Nw.warmD hW (h10 x hm), h11.moved hW.alike⟩
  · obtain ⟨sa, hs⟩ := h3 o k tx hm
    exact ⟨sa, vk_R.warm hW hs⟩
  · rw [hH]; exact ((h4.kept fun a ha hn => hS.2.1 a ha hn).narrow hB).moved hW.alike
  · rw [hH]; exact ((h5.kept fun a ha hn => hS.2.1 a ha hn).narrow hB).moved hW.alike
/-- what a call may write: the positions' cells (not the script), and what is new -/
def jA (L : List Nat) (h : jH) (sz : Nat) : Nat → Prop := fun q => (∃ k, L[k]? = some q ∧ (h k).1 < 14) ∨ sz ≤ q
def jvo (L : List Nat) (v w : Option Value) : Prop := match v with
  | none => w = none
  | some v => ∃ w', w = some w' ∧ jv L v w'
def jQ (G : jG) (A : Nat → Prop) (L : List Nat) (K : jK) : Array Value → State → Outcome → State → Prop := fun _ st o t =>
  ∃ (v v' : Option Value) (L' : List Nat) (n' : Nat) (h' : jH), o = .returned v' ∧ jvo L' v v' ∧ K (.inl v) n' h' ∧ jle L L' ∧ jRel G A t L' n' h' t.heap ∧ va_F A st t
def jX (G : jG) (A : Nat → Prop) (L : List Nat) (K : jK) : String → State → State → Prop := fun E st t =>
  ∃ (L' : List Nat) (n' : Nat) (h' : jH), K (.inr E) n' h' ∧ jle L L' ∧ jRel G A t L' n' h' t.heap ∧ va_F A st t
def jPc (G : jG) (L : List Nat) (n : Nat) (h : jH) (av : List Value) (sz : Nat) : Array Value → State → Prop := fun v U =>
  v = av.toArray ∧ U.heap.size = sz ∧ jg G (jA L h sz) U ∧ jRel G (jA L h sz) U L n h U.heap
theorem jPc.blind {G : jG} {L : List Nat} {n : Nat} {h : jH} {av : List Value} {sz : Nat} : FrameBlind (jPc G L n h av sz) := fun a U g mk q => by
  obtain ⟨q1, q2, q3, q4⟩ := q
  exact ⟨q1, q2, q3.next (U := U.calling g mk a) (State.WarmedH.refl U) rfl va_S.rf (fun _ z => z), q4.mono (u := U.calling g mk a) (fun _ z => z) (Vm.Alike.refl U.vm)⟩
/-- methods with their tables -/
abbrev jY : Type := jM × List (Nat × Nat × Nat × Nat)
def jlv (L : List Nat) (ls : List (Option Value)) (lsR : Array Slot) (nL : Nat) : Prop :=
  lsR.size = nL ∧ lv_wf lsR ∧ ∀ (i : Nat) (v : Value), ls[i]? = some (some v) → ∃ w, jv L v w ∧ lsR[i]? = some (.val w)
def jCtx (l : Launch) (G : jG) (Y : jY) (d : Nat) (p : Program) (R : Room) (s : State) (m : MethodId) (args : Array Value) (meth : Method) (c : Code) (A : Nat → Prop) : Prop :=
  p.tables.exec = Jvm.exec ∧ c.code = Y.1.2.1 ∧ meth.sig.returnType = Y.1.2.2.2 ∧ c.maxLocals = Y.1.2.2.1 ∧ s.vm.findClass Y.1.1.cls = some m.cls ∧ meth.locks = false ∧ meth.name = Y.1.1.name ∧
  c.exceptionTable.toList.map (fun x => (x.startPc, x.endPc, x.handlerPc, x.catchType)) = Y.2 ∧ l.stackTraces = false ∧ d ≤ R.frames ∧ 32 * d ≤ R.locals ∧ jg G A s ∧ ∀ q, s.heap.size ≤ q → A q
def jJ (l : Launch) (G : jG) (Y : jY) (d bc bs n pc : Nat) (ls : List (Option Value)) (st : List Value) (h : jH) (K : jK) : Prop :=
  ∀ (p : Program) (e : Env) (R : Room) (s : State) (m : MethodId) (args : Array Value) (below : List Frame) (meth : Method) (c : Code) (A : Nat → Prop) (H : Heap) (locs : List Loc) (cells slots C S : Nat) (L0 L : List Nat) (lsR : Array Slot) (stR : List Value),
    jCtx l G Y d p R s m args meth c A → jRel G A s L n h H → jle L0 L → va_S A s.heap H locs → jlv L ls lsR Y.1.2.2.1 → jvs L st stR → cells + bc ≤ C → slots + bs ≤ S → C ≤ R.cells → S ≤ R.slots →
    W p l e R s m args below meth c H locs cells slots (vx_MQ below (jQ G A L0 K) (jX G A L0 K) args s C S A) (F0 m pc lsR stR)
theorem jvs.c {L : List Nat} {v : Value} {vs ws : List Value} (h : jvs L (v :: vs) ws) : ∃ w ws', ws = w :: ws' ∧ jv L v w ∧ jvs L vs ws' := h
theorem jvs.i {L : List Nat} {x : Int32} {vs ws : List Value} (h : jvs L (.int x :: vs) ws) : ∃ ws', ws = .int x :: ws' ∧ jvs L vs ws' := by
  obtain ⟨w, ws', e, h1, h2⟩ := h
  exact ⟨ws', by rw [e, show w = _ from h1], h2⟩
theorem jvs.lg {L : List Nat} {x : Int64} {vs ws : List Value} (h : jvs L (.long x :: vs) ws) : ∃ ws', ws = .long x :: ws' ∧ jvs L vs ws' := by
  obtain ⟨w, ws', e, h1, h2⟩ := h
  exact ⟨ws', by rw [e, show w = _ from h1], h2⟩
theorem jvs.r {L : List Nat} {k : Nat} {vs ws : List Value} (h : jvs L (.ref k :: vs) ws) : ∃ a ws', ws = .ref a :: ws' ∧ L[k]? = some a ∧ jvs L vs ws' := by
  obtain ⟨w, ws', e, ⟨a, h1, h3⟩, h2⟩ := h
  exact ⟨a, ws', by rw [e, h3], h1, h2⟩
theorem jvs.n {L : List Nat} {vs ws : List Value} (h : jvs L (.null :: vs) ws) : ∃ ws', ws = .null :: ws' ∧ jvs L vs ws' := by
  obtain ⟨w, ws', e, h1, h2⟩ := h
  exact ⟨ws', by rw [e, show w = _ from h1], h2⟩
theorem jvs.ic {L : List Nat} {x : Int32} {vs ws : List Value} (h : jvs L vs ws) : jvs L (.int x :: vs) (.int x :: ws) := ⟨_, _, rfl, rfl, h⟩
theorem jvs.lc {L : List Nat} {x : Int64} {vs ws : List Value} (h : jvs L vs ws) : jvs L (.long x :: vs) (.long x :: ws) := ⟨_, _, rfl, rfl, h⟩
section JR
variable {l : Launch} {G : jG} {Y : jY} {d bc bs n pc : Nat} {ls : List (Option Value)} {st : List Value} {h : jH} {K : jK}
/-- an instruction that changes the stack alone -/
theorem jJ.s {pc' : Nat} {st' : List Value} (k : jJ l G Y d bc bs n pc' ls st' h K)
    (hh : ∀ (L : List Nat) (stR : List Value), jvs L st stR → ∃ stR', jvs L st' stR' ∧ ∀ (p : Program) (e : Env) (R : Room) (s : State) (m : MethodId) (args : Array Value) (below : List Frame) (meth : Method) (c : Code) (H : Heap) (locs : List Loc) (cells slots : Nat) (Q : State → Prop) (lsR : Array Slot), p.tables.exec = Jvm.exec → c.code = Y.1.2.1 → W p l e R s m args below meth c H locs cells slots Q (F0 m pc' lsR stR') → W p l e R s m args below meth c H locs cells slots Q (F0 m pc lsR stR)) : jJ l G Y d bc bs n pc ls st h K := by
  intro p e R s m args below meth c A H locs cells slots C S L0 L lsR stR C0 hR hL hS hl hst h1 h2 h3 h4
  obtain ⟨stR', q1, q2⟩ := hh L stR hst
  exact q2 p e R s m args below meth c H locs cells slots _ lsR C0.1 C0.2.1 (k p e R s m args below meth c A H locs cells slots C S L0 L lsR stR' C0 hR hL hS hl q1 h1 h2 h3 h4)
theorem jJ.mono {ls' : List (Option Value)} {K' : jK} (hls : ∀ (i : Nat) (v : Value), ls'[i]? = some (some v) → ls[i]? = some (some v)) (hK : ∀ o n h, K' o n h → K o n h) (k : jJ l G Y d bc bs n pc ls' st h K') : jJ l G Y d bc bs n pc ls st h K := by
  intro p e R s m args below meth c A H locs cells slots C S L0 L lsR stR C0 hR hL hS hl hst h1 h2 h3 h4
  have hk := k p e R s m args below meth c A H locs cells slots C S L0 L lsR stR C0 hR hL hS ⟨hl.1, hl.2.1, fun i v q => hl.2.2 i v (hls i v q)⟩ hst h1 h2 h3 h4
  intro T hT X
  obtain ⟨t, a1, o, b1, b2, b3⟩ := hk T hT X
  refine ⟨t, a1, o, b1, b2, ?_⟩
  rcases b3 with ⟨⟨v, v', L', n', h', x1, x2, x3, x4⟩, y⟩ | ⟨q, x1, E, ce, Lx, ⟨L', n', h', x3, x4⟩, y⟩
  · exact Or.inl ⟨⟨v, v', L', n', h', x1, x2, hK _ _ _ x3, x4⟩, y⟩
  · exact Or.inr ⟨q, x1, E, ce, Lx, ⟨L', n', h', hK _ _ _ x3, x4⟩, y⟩
/-- less depth, less room is enough -/
theorem jJ.widen {d' bc' bs' : Nat} (hd : d' ≤ d) (hc : bc' ≤ bc) (hs : bs' ≤ bs) (k : jJ l G Y d' bc' bs' n pc ls st h K) : jJ l G Y d bc bs n pc ls st h K := by
  intro p e R s m args below meth c A H locs cells slots C S L0 L lsR stR C0 hR hL hS hl hst h1 h2 h3 h4
  obtain ⟨c1, c2, c3, c4, c5, c6, c7, c8, c9, c10, c11, c12⟩ := C0
  exact k p e R s m args below meth c A H locs cells slots C S L0 L lsR stR ⟨c1, c2, c3, c4, c5, c6, c7, c8, c9, Nat.le_trans hd c10, Nat.le_trans (Nat.mul_le_mul_left 32 hd) c11, c12⟩ hR hL hS hl hst (by omega) (by omega) h3 h4
theorem J_iconst {i : Int} {v : Int32} (hd : decode Y.1.2.1 pc = .ok (.iconst i, 1)) (hv : Int32.ofInt i = v) (k : jJ l G Y d bc bs n (pc + 1) ls (.int v :: st) h K) : jJ l G Y d bc bs n pc ls st h K :=
  jJ.s k (fun L stR hst => ⟨.int v :: stR, ⟨_, _, rfl, rfl, hst⟩, fun p e R s m args below meth c H locs cells slots Q lsR hx hb w => lv_iconst hx hb hd hv w⟩)
theorem J_bipush {i : Int} {v : Int32} (hd : decode Y.1.2.1 pc = .ok (.bipush i, 2)) (hv : (Int8.ofInt i).toInt32 = v) (k : jJ l G Y d bc bs n (pc + 2) ls (.int v :: st) h K) : jJ l G Y d bc bs n pc ls st h K :=
  jJ.s k (fun L stR hst => ⟨.int v :: stR, ⟨_, _, rfl, rfl, hst⟩, fun p e R s m args below meth c H locs cells slots Q lsR hx hb w => lv_bipush hx hb hd hv w⟩)
theorem J_sipush {i : Int} {v : Int32} (hd : decode Y.1.2.1 pc = .ok (.sipush i, 3)) (hv : (Int16.ofInt i).toInt32 = v) (k : jJ l G Y d bc bs n (pc + 3) ls (.int v :: st) h K) : jJ l G Y d bc bs n pc ls st h K :=
  jJ.s k (fun L stR hst => ⟨.int v :: stR, ⟨_, _, rfl, rfl, hst⟩, fun p e R s m args below meth c H locs cells slots Q lsR hx hb w => lv_sipush hx hb hd hv w⟩)
theorem J_lconst {i : Fin 2} {v : Int64} (hd : decode Y.1.2.1 pc = .ok (.lconst i, 1)) (hv : Int64.ofNat (i : Nat) = v) (k : jJ l G Y d bc bs n (pc + 1) ls (.long v :: st) h K) : jJ l G Y d bc bs n pc ls st h K :=
  jJ.s k (fun L stR hst => ⟨.long v :: stR, ⟨_, _, rfl, rfl, hst⟩, fun p e R s m args below meth c H locs cells slots Q lsR hx hb w => lv_lconst hx hb hd hv w⟩)
theorem J_null (hd : decode Y.1.2.1 pc = .ok (.aconst_null, 1)) (k : jJ l G Y d bc bs n (pc + 1) ls (.null :: st) h K) : jJ l G Y d bc bs n pc ls st h K :=
  jJ.s k (fun L stR hst => ⟨.null :: stR, ⟨_, _, rfl, rfl, hst⟩, fun p e R s m args below meth c H locs cells slots Q lsR hx hb w => lv_null hx hb hd w⟩)
theorem J_iadd {x y : Int32} (hd : decode Y.1.2.1 pc = .ok (.iadd, 1)) (k : jJ l G Y d bc bs n (pc + 1) ls (.int (x + y) :: st) h K) : jJ l G Y d bc bs n pc ls (.int y :: .int x :: st) h K :=
  jJ.s k (fun L stR hst => by
    obtain ⟨_, e1, q1⟩ := hst.i
    obtain ⟨_, e2, q2⟩ := q1.i
    subst e2; subst e1
    exact ⟨_, q2.ic, fun p e R s m args below meth c H locs cells slots Q lsR hx hb w => lv_iadd hx hb hd w⟩)
theorem J_isub {x y : Int32} (hd : decode Y.1.2.1 pc = .ok (.isub, 1)) (k : jJ l G Y d bc bs n (pc + 1) ls (.int (x - y) :: st) h K) : jJ l G Y d bc bs n pc ls (.int y :: .int x :: st) h K :=
  jJ.s k (fun L stR hst => by
    obtain ⟨_, e1, q1⟩ := hst.i
    obtain ⟨_, e2, q2⟩ := q1.i
    subst e2; subst e1
    exact ⟨_, q2.ic, fun p e R s m args below meth c H locs cells slots Q lsR hx hb w => lv_isub hx hb hd w⟩)
theorem J_imul {x y : Int32} (hd : decode Y.1.2.1 pc = .ok (.imul, 1)) (k : jJ l G Y d bc bs n (pc + 1) ls (.int (x * y) :: st) h K) : jJ l G Y d bc bs n pc ls (.int y :: .int x :: st) h K :=
  jJ.s k (fun L stR hst => by
    obtain ⟨_, e1, q1⟩ := hst.i
    obtain ⟨_, e2, q2⟩ := q1.i
    subst e2; subst e1
    exact ⟨_, q2.ic, fun p e R s m args below meth c H locs cells slots Q lsR hx hb w => lv_imul hx hb hd w⟩)
theorem J_iand {x y : Int32} (hd : decode Y.1.2.1 pc = .ok (.iand, 1)) (k : jJ l G Y d bc bs n (pc + 1) ls (.int (x &&& y) :: st) h K) : jJ l G Y d bc bs n pc ls (.int y :: .int x :: st) h K :=
  jJ.s k (fun L stR hst => by
    obtain ⟨_, e1, q1⟩ := hst.i
    obtain ⟨_, e2, q2⟩ := q1.i
    subst e2; subst e1
    exact ⟨_, q2.ic, fun p e R s m args below meth c H locs cells slots Q lsR hx hb w => lv_iand hx hb hd w⟩)
theorem J_ior {x y : Int32} (hd : decode Y.1.2.1 pc = .ok (.ior, 1)) (k : jJ l G Y d bc bs n (pc + 1) ls (.int (x ||| y) :: st) h K) : jJ l G Y d bc bs n pc ls (.int y :: .int x :: st) h K :=
  jJ.s k (fun L stR hst => by
    obtain ⟨_, e1, q1⟩ := hst.i
    obtain ⟨_, e2, q2⟩ := q1.i
    subst e2; subst e1
    exact ⟨_, q2.ic, fun p e R s m args below meth c H locs cells slots Q lsR hx hb w => lv_ior hx hb hd w⟩)
theorem J_idiv {x y : Int32} (hd : decode Y.1.2.1 pc = .ok (.idiv, 1)) (hne : ¬ y = 0) (k : jJ l G Y d bc bs n (pc + 1) ls (.int (x / y) :: st) h K) : jJ l G Y d bc bs n pc ls (.int y :: .int x :: st) h K :=
  jJ.s k (fun L stR hst => by
    obtain ⟨_, e1, q1⟩ := hst.i
    obtain ⟨_, e2, q2⟩ := q1.i
    subst e2; subst e1
    exact ⟨_, q2.ic, fun p e R s m args below meth c H locs cells slots Q lsR hx hb w => lv_idiv hx hb hd hne w⟩)
theorem J_irem {x y : Int32} (hd : decode Y.1.2.1 pc = .ok (.irem, 1)) (hne : ¬ y = 0) (k : jJ l G Y d bc bs n (pc + 1) ls (.int (x - x / y * y) :: st) h K) : jJ l G Y d bc bs n pc ls (.int y :: .int x :: st) h K :=
  jJ.s k (fun L stR hst => by
    obtain ⟨_, e1, q1⟩ := hst.i
    obtain ⟨_, e2, q2⟩ := q1.i
    subst e2; subst e1
    exact ⟨_, q2.ic, fun p e R s m args below meth c H locs cells slots Q lsR hx hb w => lv_irem hx hb hd hne w⟩)
theorem J_ishl {x y : Int32} (hd : decode Y.1.2.1 pc = .ok (.ishl, 1)) (k : jJ l G Y d bc bs n (pc + 1) ls (.int (x <<< (y &&& 31)) :: st) h K) : jJ l G Y d bc bs n pc ls (.int y :: .int x :: st) h K :=
  jJ.s k (fun L stR hst => by
    obtain ⟨_, e1, q1⟩ := hst.i
    obtain ⟨_, e2, q2⟩ := q1.i
    subst e2; subst e1
    exact ⟨_, q2.ic, fun p e R s m args below meth c H locs cells slots Q lsR hx hb w => lv_ishl hx hb hd w⟩)
theorem J_ishr {x y : Int32} (hd : decode Y.1.2.1 pc = .ok (.ishr, 1)) (k : jJ l G Y d bc bs n (pc + 1) ls (.int (x >>> (y &&& 31)) :: st) h K) : jJ l G Y d bc bs n pc ls (.int y :: .int x :: st) h K :=
  jJ.s k (fun L stR hst => by
    obtain ⟨_, e1, q1⟩ := hst.i
    obtain ⟨_, e2, q2⟩ := q1.i
    subst e2; subst e1
    exact ⟨_, q2.ic, fun p e R s m args below meth c H locs cells slots Q lsR hx hb w => lv_ishr hx hb hd w⟩)
theorem J_iushr {x y v : Int32} (hd : decode Y.1.2.1 pc = .ok (.iushr, 1)) (hv : (x.toUInt32 >>> (y.toUInt32 &&& Int32.toUInt32 31)).toInt32 = v) (k : jJ l G Y d bc bs n (pc + 1) ls (.int v :: st) h K) : jJ l G Y d bc bs n pc ls (.int y :: .int x :: st) h K :=
  jJ.s k (fun L stR hst => by
    obtain ⟨_, e1, q1⟩ := hst.i
    obtain ⟨_, e2, q2⟩ := q1.i
    subst e2; subst e1
    exact ⟨_, q2.ic, fun p e R s m args below meth c H locs cells slots Q lsR hx hb w => lv_iushr hx hb hd hv w⟩)
theorem J_lor {x y : Int64} (hd : decode Y.1.2.1 pc = .ok (.lor, 1)) (k : jJ l G Y d bc bs n (pc + 1) ls (.long (x ||| y) :: st) h K) : jJ l G Y d bc bs n pc ls (.long y :: .long x :: st) h K :=
  jJ.s k (fun L stR hst => by
    obtain ⟨_, e1, q1⟩ := hst.lg
    obtain ⟨_, e2, q2⟩ := q1.lg
    subst e2; subst e1
    exact ⟨_, q2.lc, fun p e R s m args below meth c H locs cells slots Q lsR hx hb w => lv_lor hx hb hd w⟩)
theorem J_land {x y : Int64} (hd : decode Y.1.2.1 pc = .ok (.land, 1)) (k : jJ l G Y d bc bs n (pc + 1) ls (.long (x &&& y) :: st) h K) : jJ l G Y d bc bs n pc ls (.long y :: .long x :: st) h K :=
  jJ.s k (fun L stR hst => by
    obtain ⟨_, e1, q1⟩ := hst.lg
    obtain ⟨_, e2, q2⟩ := q1.lg
    subst e2; subst e1
    exact ⟨_, q2.lc, fun p e R s m args below meth c H locs cells slots Q lsR hx hb w => lv_land hx hb hd w⟩)
theorem J_lushr {x v : Int64} {y : Int32} (hd : decode Y.1.2.1 pc = .ok (.lushr, 1)) (hv : (x.toUInt64 >>> (y.toInt64.toUInt64 &&& Int64.toUInt64 63)).toInt64 = v) (k : jJ l G Y d bc bs n (pc + 1) ls (.long v :: st) h K) : jJ l G Y d bc bs n pc ls (.int y :: .long x :: st) h K :=
  jJ.s k (fun L stR hst => by
    obtain ⟨_, e1, q1⟩ := hst.i
    obtain ⟨_, e2, q2⟩ := q1.lg
    subst e2; subst e1
    exact ⟨_, q2.lc, fun p e R s m args below meth c H locs cells slots Q lsR hx hb w => lv_lushr hx hb hd hv w⟩)
theorem J_lshl {x v : Int64} {y : Int32} (hd : decode Y.1.2.1 pc = .ok (.lshl, 1)) (hv : x <<< (y.toInt64 &&& 63) = v) (k : jJ l G Y d bc bs n (pc + 1) ls (.long v :: st) h K) : jJ l G Y d bc bs n pc ls (.int y :: .long x :: st) h K :=
  jJ.s k (fun L stR hst => by
    obtain ⟨_, e1, q1⟩ := hst.i
    obtain ⟨_, e2, q2⟩ := q1.lg
    subst e2; subst e1
    exact ⟨_, q2.lc, fun p e R s m args below meth c H locs cells slots Q lsR hx hb w => lv_lshl hx hb hd hv w⟩)
theorem J_lshr {x v : Int64} {y : Int32} (hd : decode Y.1.2.1 pc = .ok (.lshr, 1)) (hv : x >>> (y.toInt64 &&& 63) = v) (k : jJ l G Y d bc bs n (pc + 1) ls (.long v :: st) h K) : jJ l G Y d bc bs n pc ls (.int y :: .long x :: st) h K :=
  jJ.s k (fun L stR hst => by
    obtain ⟨_, e1, q1⟩ := hst.i
    obtain ⟨_, e2, q2⟩ := q1.lg
    subst e2; subst e1
    exact ⟨_, q2.lc, fun p e R s m args below meth c H locs cells slots Q lsR hx hb w => lv_lshr hx hb hd hv w⟩)
theorem J_i2l {x : Int32} (hd : decode Y.1.2.1 pc = .ok (.i2l, 1)) (k : jJ l G Y d bc bs n (pc + 1) ls (.long x.toInt64 :: st) h K) : jJ l G Y d bc bs n pc ls (.int x :: st) h K :=
  jJ.s k (fun L stR hst => by
    obtain ⟨_, e1, q1⟩ := hst.i
    subst e1
    exact ⟨_, q1.lc, fun p e R s m args below meth c H locs cells slots Q lsR hx hb w => lv_i2l hx hb hd rfl w⟩)
theorem J_l2i {x : Int64} (hd : decode Y.1.2.1 pc = .ok (.l2i, 1)) (k : jJ l G Y d bc bs n (pc + 1) ls (.int x.toInt32 :: st) h K) : jJ l G Y d bc bs n pc ls (.long x :: st) h K :=
  jJ.s k (fun L stR hst => by
    obtain ⟨_, e1, q1⟩ := hst.lg
    subst e1
    exact ⟨_, q1.ic, fun p e R s m args below meth c H locs cells slots Q lsR hx hb w => lv_l2i hx hb hd rfl w⟩)
theorem J_dup {v : Value} (hd : decode Y.1.2.1 pc = .ok (.dup, 1)) (hc : v.category = 1) (k : jJ l G Y d bc bs n (pc + 1) ls (v :: v :: st) h K) : jJ l G Y d bc bs n pc ls (v :: st) h K :=
  jJ.s k (fun L stR hst => by
    obtain ⟨w, ws, e1, h1, q1⟩ := hst.c
    subst e1
    exact ⟨_, ⟨_, _, rfl, h1, ⟨_, _, rfl, h1, q1⟩⟩, fun p e R s m args below meth c H locs cells slots Q lsR hx hb w => lv_dup hx hb hd (h1.cat.trans hc) w⟩)
theorem J_dup2 {v u : Value} (hd : decode Y.1.2.1 pc = .ok (.dup2, 1)) (hc : v.category = 1) (hc2 : u.category = 1) (k : jJ l G Y d bc bs n (pc + 1) ls (v :: u :: v :: u :: st) h K) : jJ l G Y d bc bs n pc ls (v :: u :: st) h K :=
  jJ.s k (fun L stR hst => by
    obtain ⟨w, ws, e1, h1, q1⟩ := hst.c
    obtain ⟨w2, ws2, e2, h2, q2⟩ := q1.c
    subst e2; subst e1
    exact ⟨_, ⟨_, _, rfl, h1, ⟨_, _, rfl, h2, ⟨_, _, rfl, h1, ⟨_, _, rfl, h2, q2⟩⟩⟩⟩, fun p e R s m args below meth c H locs cells slots Q lsR hx hb w => lv_dup2_11 hx hb hd (h1.cat.trans hc) (h2.cat.trans hc2) w⟩)
end JR
