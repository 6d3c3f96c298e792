section JD
variable {l : Launch} {G : jG} {Y : jY} {d bc bs n pc : Nat} {ls : List (Option Value)} {st : List Value} {h : jH} {K : jK}
/-- behind a call that returned -/
theorem jrun {p : Program} {e : Env} {R : Room} {s : State} {m : MethodId} {args : Array Value} {below : List Frame} {meth : Method} {c : Code} {A : Nat → Prop} {H : Heap} {locs : List Loc} {cells slots C S : Nat} {L0 L : List Nat} {lsR : Array Slot} {stR sr : List Value} {bc' bs' : Nat} {K' : jK} {av : Array Value}
    (C0 : jCtx l G Y d p R s m args meth c A) (hR : jRel G A s L n h H) (hL : jle L0 L) (hS : va_S A s.heap H locs) (hl : jlv L ls lsR Y.1.2.2.1) (h1 : cells + (bc + bc') ≤ C) (h2 : slots + (bs + bs') ≤ S) (h3 : C ≤ R.cells) (h4 : S ≤ R.slots) (q3 : jvs L st sr)
    (hrun : va_Run p l e R s m args below meth c H locs cells slots bc' bs' (F0 m pc lsR stR) sr (jQ G (jA L h H.size) L K' av) (jA L h H.size))
    (kk : ∀ v n' h', K' (.inl v) n' h' → jJ l G Y d bc bs n' (pc + 3) ls (v.toList ++ st) h' K) :
    W p l e R s m args below meth c H locs cells slots (vx_MQ below (jQ G A L0 K) (jX G A L0 K) args s C S A) (F0 m pc lsR stR) := by
  have hsub := hR.sub hS C0.2.2.2.2.2.2.2.2.2.2.2.2
  intro T hT X
  obtain ⟨v, st₀, t, T', Lc, g0, X', hLc, e1, e2, ⟨v0, v', L', n', h', z1, z2, z3, z4, z5, z6⟩, stp⟩ := hrun T hT X
  cases z1
  obtain ⟨k1, k2, k3⟩ := vx_keep g0 e1 hS (fun q _ hq => hsub q hq) hsub hLc z6
  have hal : t.vm.Alike s.vm := by rw [← e2]; exact X'.warmed.alike.symm
  have hR' : jRel G A s L' n' h' T'.heap := by rw [e1]; exact z5.mono hsub hal
  have hres : jvs L' (v0.toList ++ st) (v.toList ++ sr) := by
    cases v0 with
    | none => rw [show v = none from z2]; exact q3.mono z4
    | some u => obtain ⟨w', g1, g2⟩ := z2; subst g1; exact ⟨w', sr, rfl, g2, q3.mono z4⟩
  obtain ⟨t2, a1, b1⟩ := kk v0 n' h' z3 p e R s m args below meth c A T'.heap (locs ++ Lc) (cells + bc') (slots + bs') C S L0 L' lsR (v.toList ++ sr) C0 hR' (hL.tr z4) k3 ⟨hl.1, hl.2.1, fun i v z => by obtain ⟨w, g1, g2⟩ := hl.2.2 i v z; exact ⟨w, g1.mono z4, g2⟩⟩ hres (by omega) (by omega) h3 h4 T' rfl X'
  exact ⟨t2, stp t2 a1, b1⟩
def jini (own : String) (idx : Nat) (Y : jM) (na : Nat) : Prop := jcal Y na ∧ Y.1.name = "<init>" ∧ Y.2.2.2 = none ∧ Cond.methodLink own idx Y.1 ∈ lw_tbl ∧ Cond.instanceMethod Y.1 ∈ lw_tbl
def jinN (own : String) (idx : Nat) (host : String) (Y : jM) (na : Nat) : Prop := jcal Y na ∧ Y.1.name = "<init>" ∧ Y.2.2.2 = none ∧ Cond.methodLinkNest own idx Y.1 host ∈ lw_tbl ∧ Cond.instanceMethod Y.1 ∈ lw_tbl
def jsta (own : String) (idx : Nat) (Y : jM) (na : Nat) : Prop := jcal Y na ∧ Cond.methodLink own idx Y.1 ∈ lw_tbl ∧ Cond.static Y.1 ∈ lw_tbl
def jstN (own : String) (idx : Nat) (host : String) (Y : jM) (na : Nat) : Prop := jcal Y na ∧ Cond.methodLinkNest own idx Y.1 host ∈ lw_tbl ∧ Cond.static Y.1 ∈ lw_tbl
theorem J_callI {idx r d' bc' bs' : Nat} {Y' : jM} {As : List Value} {ls0 : List (Option Value)} {K' : jK} (hd : decode Y.1.2.1 pc = .ok (.invokespecial idx, 3)) (hv : jini Y.1.1.cls idx Y' As.length) (hls : ls0 = jent (.ref r :: As) Y'.2.2.1) (hn : (jflat (.ref r :: As)).length ≤ Y'.2.2.1) (hdd : d' + 1 ≤ d) (hw : (st.map fun v => v.category).sum ≤ 8)
    (hM : jJ l G (Y', []) d' bc' bs' n 0 ls0 [] h K') (kx : ∀ E n' h', ¬ K' (.inr E) n' h')
    (kk : ∀ v n' h', K' (.inl v) n' h' → jJ l G Y d bc bs n' (pc + 3) ls (v.toList ++ st) h' K) : jJ l G Y d (bc + bc') (bs + bs') n pc ls (As.reverse ++ .ref r :: st) h K := by
  intro p e R s m args below meth c A H locs cells slots C S L0 L lsR stR C0 hR hL hS hl hst h1 h2 h3 h4
  subst hls
  obtain ⟨w1, w2, e0, q1, q2⟩ := hst.split
  obtain ⟨a, sr, e1, ha, q3⟩ := q2.r
  subst e1; subst e0
  have qA : jvs L As w1.reverse := by have := q1.rev; rwa [List.reverse_reverse] at this
  have hg := C0.2.2.2.2.2.2.2.2.2.2.2.1
  have hA := C0.2.2.2.2.2.2.2.2.2.2.2.2
  have hvs : jvs L (.ref r :: As) (.ref a :: w1.reverse) := ⟨_, _, rfl, ⟨a, ha, rfl⟩, qA⟩
  obtain ⟨hcal, hyn, hret, v1, v2⟩ := hv
  have hMet := vx_nothrow (hM.met C0.2.2.2.2.2.2.2.2.1 hcal.2.2.2.2.1 hn hvs H.size) (fun E st t hx => by obtain ⟨_, _, _, z, _⟩ := hx; exact kx _ _ _ z)
  have hfr := C0.2.2.2.2.2.2.2.2.2.1
  have hlo := C0.2.2.2.2.2.2.2.2.2.2.1
  rw [hret] at hMet
  have hcode : Cond.code Y'.1 Y'.2.1 Y'.2.2.1 none ∈ lw_tbl := by rw [← hret]; exact hcal.1
  refine jrun (bc' := bc') (bs' := bs') (av := (Value.ref a :: w1.reverse).toArray) C0 hR hL hS hl h1 h2 h3 h4 q3 ?_ kk
  refine va_runI (Ts := jgw) (n := As.length) (b := a) (As := w1.reverse) (rest := sr) (own := Y.1.1.cls) ⟨C0.1, C0.2.1, C0.2.2.2.1, C0.2.2.2.2.1, hg.ts args⟩ hMet
    ⟨⟨rfl, rfl, by show d' + 1 ≤ R.frames; omega, by show 8 + (Y'.2.2.1 + 11) + 32 * d' ≤ R.locals; have := hcal.2.2.2.2.2; omega, fun w hw a' U hW => by rw [List.mem_singleton.mp hw]; exact word_at hW (good_of_word rfl) (hg.1 _ hcode rfl args), List.mem_singleton.mpr rfl, hg.1 _ hcode rfl args, hg.1 _ hcal.2.1 rfl args, hcal.2.2.1, hcal.len, hg.1 _ v1 rfl args⟩, hyn, hg.1 _ v2 rfl args⟩
    ⟨jPc.blind, jpre hg hR hS hA⟩ rfl qA.len hl.1 (by rw [List.reverse_reverse]) (lv_room (by rw [q3.cat]; exact hw)) hd ⟨by omega, by omega⟩
theorem J_callIN {idx r d' bc' bs' : Nat} {host : String} {Y' : jM} {As : List Value} {ls0 : List (Option Value)} {K' : jK} (hd : decode Y.1.2.1 pc = .ok (.invokespecial idx, 3)) (hv : jinN Y.1.1.cls idx host Y' As.length) (hls : ls0 = jent (.ref r :: As) Y'.2.2.1) (hn : (jflat (.ref r :: As)).length ≤ Y'.2.2.1) (hdd : d' + 1 ≤ d) (hw : (st.map fun v => v.category).sum ≤ 8)
    (hM : jJ l G (Y', []) d' bc' bs' n 0 ls0 [] h K') (kx : ∀ E n' h', ¬ K' (.inr E) n' h')
    (kk : ∀ v n' h', K' (.inl v) n' h' → jJ l G Y d bc bs n' (pc + 3) ls (v.toList ++ st) h' K) : jJ l G Y d (bc + bc') (bs + bs') n pc ls (As.reverse ++ .ref r :: st) h K := by
  intro p e R s m args below meth c A H locs cells slots C S L0 L lsR stR C0 hR hL hS hl hst h1 h2 h3 h4
  subst hls
  obtain ⟨w1, w2, e0, q1, q2⟩ := hst.split
  obtain ⟨a, sr, e1, ha, q3⟩ := q2.r
  subst e1; subst e0
  have qA : jvs L As w1.reverse := by have := q1.rev; rwa [List.reverse_reverse] at this
  have hg := C0.2.2.2.2.2.2.2.2.2.2.2.1
  have hA := C0.2.2.2.2.2.2.2.2.2.2.2.2
  have hvs : jvs L (.ref r :: As) (.ref a :: w1.reverse) := ⟨_, _, rfl, ⟨a, ha, rfl⟩, qA⟩
  obtain ⟨hcal, hyn, hret, v1, v2⟩ := hv
  have hMet := vx_nothrow (hM.met C0.2.2.2.2.2.2.2.2.1 hcal.2.2.2.2.1 hn hvs H.size) (fun E st t hx => by obtain ⟨_, _, _, z, _⟩ := hx; exact kx _ _ _ z)
  have hfr := C0.2.2.2.2.2.2.2.2.2.1
  have hlo := C0.2.2.2.2.2.2.2.2.2.2.1
  rw [hret] at hMet
  have hcode : Cond.code Y'.1 Y'.2.1 Y'.2.2.1 none ∈ lw_tbl := by rw [← hret]; exact hcal.1
  refine jrun (bc' := bc') (bs' := bs') (av := (Value.ref a :: w1.reverse).toArray) C0 hR hL hS hl h1 h2 h3 h4 q3 ?_ kk
  refine va_runIN (Ts := jgw) (n := As.length) (b := a) (As := w1.reverse) (rest := sr) (own := Y.1.1.cls) (host := host) ⟨C0.1, C0.2.1, C0.2.2.2.1, C0.2.2.2.2.1, hg.ts args⟩ hMet
    ⟨⟨⟨rfl, rfl, by show d' + 1 ≤ R.frames; omega, by show 8 + (Y'.2.2.1 + 11) + 32 * d' ≤ R.locals; have := hcal.2.2.2.2.2; omega, fun w hw a' U hW => by rw [List.mem_singleton.mp hw]; exact word_at hW (good_of_word rfl) (hg.1 _ hcode rfl args), List.mem_singleton.mpr rfl⟩, hg.1 _ hcode rfl args, hg.1 _ hcal.2.1 rfl args, hcal.2.2.1, hcal.len, va_Nw.use rfl (hg.2.1 _ _ _ _ v1)⟩, hyn, hg.1 _ v2 rfl args⟩
    ⟨jPc.blind, jpre hg hR hS hA⟩ rfl qA.len hl.1 (by rw [List.reverse_reverse]) (lv_room (by rw [q3.cat]; exact hw)) hd ⟨by omega, by omega⟩
theorem J_callS {idx d' bc' bs' : Nat} {Y' : jM} {As : List Value} {ls0 : List (Option Value)} {K' : jK} (hd : decode Y.1.2.1 pc = .ok (.invokestatic idx, 3)) (hv : jsta Y.1.1.cls idx Y' As.length) (hls : ls0 = jent As Y'.2.2.1) (hn : (jflat As).length ≤ Y'.2.2.1) (hdd : d' + 1 ≤ d) (hw : (st.map fun v => v.category).sum ≤ 8)
    (hM : jJ l G (Y', []) d' bc' bs' n 0 ls0 [] h K') (kx : ∀ E n' h', ¬ K' (.inr E) n' h')
    (kk : ∀ v n' h', K' (.inl v) n' h' → jJ l G Y d bc bs n' (pc + 3) ls (v.toList ++ st) h' K) : jJ l G Y d (bc + bc') (bs + bs') n pc ls (As.reverse ++ st) h K := by
  intro p e R s m args below meth c A H locs cells slots C S L0 L lsR stR C0 hR hL hS hl hst h1 h2 h3 h4
  subst hls
  obtain ⟨w1, w2, e0, q1, q2⟩ := hst.split
  subst e0
  have qA : jvs L As w1.reverse := by have := q1.rev; rwa [List.reverse_reverse] at this
  have hg := C0.2.2.2.2.2.2.2.2.2.2.2.1
  have hA := C0.2.2.2.2.2.2.2.2.2.2.2.2
  have hvs := qA
  obtain ⟨hcal, v1, v2⟩ := hv
  have hMet := vx_nothrow (hM.met C0.2.2.2.2.2.2.2.2.1 hcal.2.2.2.2.1 hn hvs H.size) (fun E st t hx => by obtain ⟨_, _, _, z, _⟩ := hx; exact kx _ _ _ z)
  have hfr := C0.2.2.2.2.2.2.2.2.2.1
  have hlo := C0.2.2.2.2.2.2.2.2.2.2.1
  have hcode := hcal.1
  refine jrun (bc' := bc') (bs' := bs') (av := w1.reverse.toArray) C0 hR hL hS hl h1 h2 h3 h4 q2 ?_ kk
  refine va_runS (Ts := jgw) (n := As.length) (As := w1.reverse) (rest := w2) (own := Y.1.1.cls) ⟨C0.1, C0.2.1, C0.2.2.2.1, C0.2.2.2.2.1, hg.ts args⟩ hMet
    ⟨⟨rfl, rfl, by show d' + 1 ≤ R.frames; omega, by show 8 + (Y'.2.2.1 + 11) + 32 * d' ≤ R.locals; have := hcal.2.2.2.2.2; omega, fun w hw a' U hW => by rw [List.mem_singleton.mp hw]; exact word_at hW (good_of_word rfl) (hg.1 _ hcode rfl args), List.mem_singleton.mpr rfl, hg.1 _ hcode rfl args, hg.1 _ hcal.2.1 rfl args, hcal.2.2.1, hcal.len, hg.1 _ v1 rfl args⟩, hg.1 _ v2 rfl args⟩
    ⟨jPc.blind, jpre hg hR hS hA⟩ rfl qA.len hl.1 (by rw [List.reverse_reverse]) (lv_room (by rw [q2.cat]; exact hw)) hd ⟨by omega, by omega⟩
theorem J_callSN {idx d' bc' bs' : Nat} {host : String} {Y' : jM} {As : List Value} {ls0 : List (Option Value)} {K' : jK} (hd : decode Y.1.2.1 pc = .ok (.invokestatic idx, 3)) (hv : jstN Y.1.1.cls idx host Y' As.length) (hls : ls0 = jent As Y'.2.2.1) (hn : (jflat As).length ≤ Y'.2.2.1) (hdd : d' + 1 ≤ d) (hw : (st.map fun v => v.category).sum ≤ 8)
    (hM : jJ l G (Y', []) d' bc' bs' n 0 ls0 [] h K') (kx : ∀ E n' h', ¬ K' (.inr E) n' h')
    (kk : ∀ v n' h', K' (.inl v) n' h' → jJ l G Y d bc bs n' (pc + 3) ls (v.toList ++ st) h' K) : jJ l G Y d (bc + bc') (bs + bs') n pc ls (As.reverse ++ st) h K := by
  intro p e R s m args below meth c A H locs cells slots C S L0 L lsR stR C0 hR hL hS hl hst h1 h2 h3 h4
  subst hls
  obtain ⟨w1, w2, e0, q1, q2⟩ := hst.split
  subst e0
  have qA : jvs L As w1.reverse := by have := q1.rev; rwa [List.reverse_reverse] at this
  have hg := C0.2.2.2.2.2.2.2.2.2.2.2.1
  have hA := C0.2.2.2.2.2.2.2.2.2.2.2.2
  have hvs := qA
  obtain ⟨hcal, v1, v2⟩ := hv
  have hMet := vx_nothrow (hM.met C0.2.2.2.2.2.2.2.2.1 hcal.2.2.2.2.1 hn hvs H.size) (fun E st t hx => by obtain ⟨_, _, _, z, _⟩ := hx; exact kx _ _ _ z)
  have hfr := C0.2.2.2.2.2.2.2.2.2.1
  have hlo := C0.2.2.2.2.2.2.2.2.2.2.1
  have hcode := hcal.1
  refine jrun (bc' := bc') (bs' := bs') (av := w1.reverse.toArray) C0 hR hL hS hl h1 h2 h3 h4 q2 ?_ kk
  refine va_runSN (Ts := jgw) (n := As.length) (As := w1.reverse) (rest := w2) (own := Y.1.1.cls) (host := host) ⟨C0.1, C0.2.1, C0.2.2.2.1, C0.2.2.2.2.1, hg.ts args⟩ hMet
    ⟨⟨⟨rfl, rfl, by show d' + 1 ≤ R.frames; omega, by show 8 + (Y'.2.2.1 + 11) + 32 * d' ≤ R.locals; have := hcal.2.2.2.2.2; omega, fun w hw a' U hW => by rw [List.mem_singleton.mp hw]; exact word_at hW (good_of_word rfl) (hg.1 _ hcode rfl args), List.mem_singleton.mpr rfl⟩, hg.1 _ hcode rfl args, hg.1 _ hcal.2.1 rfl args, hcal.2.2.1, hcal.len, va_Nw.use rfl (hg.2.1 _ _ _ _ v1)⟩, hg.1 _ v2 rfl args, trivial⟩
    ⟨jPc.blind, jpre hg hR hS hA⟩ rfl qA.len hl.1 (by rw [List.reverse_reverse]) (lv_room (by rw [q2.cat]; exact hw)) hd ⟨by omega, by omega⟩
end JD
