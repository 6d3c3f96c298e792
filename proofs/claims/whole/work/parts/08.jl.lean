/-- all that the real locals hold -/
def jall (lsR : Array Slot) : List (Nat × Value) := (List.range lsR.size).filterMap fun i => match (lsR[i]? : Option Slot) with
  | some (Slot.val w) => some (i, w)
  | _ => none
theorem jall_mem {lsR : Array Slot} {i : Nat} {w : Value} (h : lsR[i]? = some (.val w)) : (i, w) ∈ jall lsR :=
  List.mem_filterMap.mpr ⟨i, List.mem_range.mpr (Array.getElem?_eq_some_iff.mp h).1, by rw [h]⟩
theorem jall_has {lsR : Array Slot} {nL : Nat} (hz : lsR.size = nL) (hw : lv_wf lsR) : lv_has lsR nL (jall lsR) := by
  refine ⟨hz, hw, fun q hq => ?_⟩
  obtain ⟨i, _, hi⟩ := List.mem_filterMap.mp hq
  split at hi
  · rename_i w hw'
    cases hi; exact hw'
  · cases hi
/-- no long reaches into the place i -/
def jnl (ls : List (Option Value)) (i : Nat) : Bool := match i with
  | 0 => true
  | j + 1 => match ls[j]? with
    | some (some v) => v.category == 1
    | _ => true
theorem jlv.st1 {L : List Nat} {ls : List (Option Value)} {lsR ls' : Array Slot} {nL i : Nat} {v w : Value} (hl : jlv L ls lsR nL) (hn : jnl ls i = true) (hv : jv L v w) (h' : lv_has ls' nL ((i, w) :: (jall lsR).filter (fun q => !(q.1 == i) && !(q.1 + 1 == i && q.2.category == 2)))) : jlv L (ls.set i (some v)) ls' nL := by
  refine ⟨h'.1, h'.2.1, fun j u hu => ?_⟩
  by_cases e : j = i
  · subst e
    have hlt : j < ls.length := by
      have := (List.getElem?_eq_some_iff.mp hu).1
      simpa using this
    rw [List.getElem?_set_self hlt] at hu
    cases hu
    exact ⟨w, hv, h'.2.2 (j, w) List.mem_cons_self⟩
  · rw [List.getElem?_set_ne (Ne.symm e)] at hu
    obtain ⟨w', q1, q2⟩ := hl.2.2 j u hu
    refine ⟨w', q1, h'.2.2 (j, w') (List.mem_cons_of_mem _ (List.mem_filter.mpr ⟨jall_mem q2, ?_⟩))⟩
    by_cases e2 : j + 1 = i
    · subst e2
      have : jnl ls (j + 1) = (u.category == 1) := by simp only [jnl, hu]
      rw [this] at hn
      have hc : w'.category = 1 := by rw [q1.cat]; simpa using hn
      simp [hc]
    · simp [e, e2]
section JL
variable {l : Launch} {G : jG} {Y : jY} {d bc bs n pc : Nat} {ls : List (Option Value)} {st : List Value} {h : jH} {K : jK}
theorem J_iload_n {k : Fin 4} {x : Int32} (hd : decode Y.1.2.1 pc = .ok (.iload_n k, 1)) (hv : ls[(k : Nat)]? = some (some (.int x))) (kk : jJ l G Y d bc bs n (pc + 1) ls (.int x :: st) h K) : jJ l G Y d bc bs n pc ls st h K := by
  intro p e R s m args below meth c A H locs cells slots C S L0 L lsR stR C0 hR hL hS hl hst h1 h2 h3 h4
  obtain ⟨w, q1, q2⟩ := hl.2.2 _ _ hv
  rw [show w = _ from q1] at q2
  exact lv_iload_n C0.1 C0.2.1 hd rfl q2 (kk p e R s m args below meth c A H locs cells slots C S L0 L lsR (.int x :: stR) C0 hR hL hS hl ⟨_, _, rfl, rfl, hst⟩ h1 h2 h3 h4)
theorem J_iload {i : Nat} {x : Int32} (hd : decode Y.1.2.1 pc = .ok (.iload i, 2)) (hv : ls[i]? = some (some (.int x))) (kk : jJ l G Y d bc bs n (pc + 2) ls (.int x :: st) h K) : jJ l G Y d bc bs n pc ls st h K := by
  intro p e R s m args below meth c A H locs cells slots C S L0 L lsR stR C0 hR hL hS hl hst h1 h2 h3 h4
  obtain ⟨w, q1, q2⟩ := hl.2.2 _ _ hv
  rw [show w = _ from q1] at q2
  exact lv_iload C0.1 C0.2.1 hd q2 (kk p e R s m args below meth c A H locs cells slots C S L0 L lsR (.int x :: stR) C0 hR hL hS hl ⟨_, _, rfl, rfl, hst⟩ h1 h2 h3 h4)
theorem J_lload_n {k : Fin 4} {x : Int64} (hd : decode Y.1.2.1 pc = .ok (.lload_n k, 1)) (hv : ls[(k : Nat)]? = some (some (.long x))) (kk : jJ l G Y d bc bs n (pc + 1) ls (.long x :: st) h K) : jJ l G Y d bc bs n pc ls st h K := by
  intro p e R s m args below meth c A H locs cells slots C S L0 L lsR stR C0 hR hL hS hl hst h1 h2 h3 h4
  obtain ⟨w, q1, q2⟩ := hl.2.2 _ _ hv
  rw [show w = _ from q1] at q2
  exact lv_lload_n C0.1 C0.2.1 hd rfl q2 (kk p e R s m args below meth c A H locs cells slots C S L0 L lsR (.long x :: stR) C0 hR hL hS hl ⟨_, _, rfl, rfl, hst⟩ h1 h2 h3 h4)
theorem J_aload_n {k : Fin 4} {x : Nat} (hd : decode Y.1.2.1 pc = .ok (.aload_n k, 1)) (hv : ls[(k : Nat)]? = some (some (.ref x))) (kk : jJ l G Y d bc bs n (pc + 1) ls (.ref x :: st) h K) : jJ l G Y d bc bs n pc ls st h K := by
  intro p e R s m args below meth c A H locs cells slots C S L0 L lsR stR C0 hR hL hS hl hst h1 h2 h3 h4
  obtain ⟨w, ⟨a, q1, q3⟩, q2⟩ := hl.2.2 _ _ hv
  rw [q3] at q2
  exact lv_aload_n C0.1 C0.2.1 hd rfl q2 (kk p e R s m args below meth c A H locs cells slots C S L0 L lsR (.ref a :: stR) C0 hR hL hS hl ⟨_, _, rfl, ⟨a, q1, rfl⟩, hst⟩ h1 h2 h3 h4)
theorem J_aload {i : Nat} {x : Nat} (hd : decode Y.1.2.1 pc = .ok (.aload i, 2)) (hv : ls[i]? = some (some (.ref x))) (kk : jJ l G Y d bc bs n (pc + 2) ls (.ref x :: st) h K) : jJ l G Y d bc bs n pc ls st h K := by
  intro p e R s m args below meth c A H locs cells slots C S L0 L lsR stR C0 hR hL hS hl hst h1 h2 h3 h4
  obtain ⟨w, ⟨a, q1, q3⟩, q2⟩ := hl.2.2 _ _ hv
  rw [q3] at q2
  exact lv_aload C0.1 C0.2.1 hd q2 (kk p e R s m args below meth c A H locs cells slots C S L0 L lsR (.ref a :: stR) C0 hR hL hS hl ⟨_, _, rfl, ⟨a, q1, rfl⟩, hst⟩ h1 h2 h3 h4)
theorem J_aload_nN {k : Fin 4} (hd : decode Y.1.2.1 pc = .ok (.aload_n k, 1)) (hv : ls[(k : Nat)]? = some (some .null)) (kk : jJ l G Y d bc bs n (pc + 1) ls (.null :: st) h K) : jJ l G Y d bc bs n pc ls st h K := by
  intro p e R s m args below meth c A H locs cells slots C S L0 L lsR stR C0 hR hL hS hl hst h1 h2 h3 h4
  obtain ⟨w, q1, q2⟩ := hl.2.2 _ _ hv
  rw [show w = _ from q1] at q2
  exact lv_aload_nN C0.1 C0.2.1 hd rfl q2 (kk p e R s m args below meth c A H locs cells slots C S L0 L lsR (.null :: stR) C0 hR hL hS hl ⟨_, _, rfl, rfl, hst⟩ h1 h2 h3 h4)
theorem J_aloadN {i : Nat} (hd : decode Y.1.2.1 pc = .ok (.aload i, 2)) (hv : ls[i]? = some (some .null)) (kk : jJ l G Y d bc bs n (pc + 2) ls (.null :: st) h K) : jJ l G Y d bc bs n pc ls st h K := by
  intro p e R s m args below meth c A H locs cells slots C S L0 L lsR stR C0 hR hL hS hl hst h1 h2 h3 h4
  obtain ⟨w, q1, q2⟩ := hl.2.2 _ _ hv
  rw [show w = _ from q1] at q2
  exact lv_aloadN C0.1 C0.2.1 hd q2 (kk p e R s m args below meth c A H locs cells slots C S L0 L lsR (.null :: stR) C0 hR hL hS hl ⟨_, _, rfl, rfl, hst⟩ h1 h2 h3 h4)
theorem J_istore_n {k : Fin 4} {x : Int32} (hd : decode Y.1.2.1 pc = .ok (.istore_n k, 1)) (hi : (k : Nat) < Y.1.2.2.1) (hn : jnl ls k = true) (kk : jJ l G Y d bc bs n (pc + 1) (ls.set k (some (.int x))) st h K) : jJ l G Y d bc bs n pc ls (.int x :: st) h K := by
  intro p e R s m args below meth c A H locs cells slots C S L0 L lsR stR C0 hR hL hS hl hst h1 h2 h3 h4
  obtain ⟨ws, e1, q⟩ := hst.i
  subst e1
  exact lv_istore_n C0.1 C0.2.1 hd rfl (jall_has hl.1 hl.2.1) hi rfl fun ls' h' => kk p e R s m args below meth c A H locs cells slots C S L0 L ls' ws C0 hR hL hS (hl.st1 hn rfl h') q h1 h2 h3 h4
theorem J_istore {i : Nat} {x : Int32} (hd : decode Y.1.2.1 pc = .ok (.istore i, 2)) (hi : i < Y.1.2.2.1) (hn : jnl ls i = true) (kk : jJ l G Y d bc bs n (pc + 2) (ls.set i (some (.int x))) st h K) : jJ l G Y d bc bs n pc ls (.int x :: st) h K := by
  intro p e R s m args below meth c A H locs cells slots C S L0 L lsR stR C0 hR hL hS hl hst h1 h2 h3 h4
  obtain ⟨ws, e1, q⟩ := hst.i
  subst e1
  exact lv_istore C0.1 C0.2.1 hd (jall_has hl.1 hl.2.1) hi rfl fun ls' h' => kk p e R s m args below meth c A H locs cells slots C S L0 L ls' ws C0 hR hL hS (hl.st1 hn rfl h') q h1 h2 h3 h4
theorem J_astore_n {k : Fin 4} {x : Nat} (hd : decode Y.1.2.1 pc = .ok (.astore_n k, 1)) (hi : (k : Nat) < Y.1.2.2.1) (hn : jnl ls k = true) (kk : jJ l G Y d bc bs n (pc + 1) (ls.set k (some (.ref x))) st h K) : jJ l G Y d bc bs n pc ls (.ref x :: st) h K := by
  intro p e R s m args below meth c A H locs cells slots C S L0 L lsR stR C0 hR hL hS hl hst h1 h2 h3 h4
  obtain ⟨a, ws, e1, qa, q⟩ := hst.r
  subst e1
  exact lv_astore_n C0.1 C0.2.1 hd rfl (jall_has hl.1 hl.2.1) hi rfl fun ls' h' => kk p e R s m args below meth c A H locs cells slots C S L0 L ls' ws C0 hR hL hS (hl.st1 hn ⟨a, qa, rfl⟩ h') q h1 h2 h3 h4
theorem J_astore {i : Nat} {x : Nat} (hd : decode Y.1.2.1 pc = .ok (.astore i, 2)) (hi : i < Y.1.2.2.1) (hn : jnl ls i = true) (kk : jJ l G Y d bc bs n (pc + 2) (ls.set i (some (.ref x))) st h K) : jJ l G Y d bc bs n pc ls (.ref x :: st) h K := by
  intro p e R s m args below meth c A H locs cells slots C S L0 L lsR stR C0 hR hL hS hl hst h1 h2 h3 h4
  obtain ⟨a, ws, e1, qa, q⟩ := hst.r
  subst e1
  exact lv_astore C0.1 C0.2.1 hd (jall_has hl.1 hl.2.1) hi rfl fun ls' h' => kk p e R s m args below meth c A H locs cells slots C S L0 L ls' ws C0 hR hL hS (hl.st1 hn ⟨a, qa, rfl⟩ h') q h1 h2 h3 h4
theorem J_astore_nN {k : Fin 4} (hd : decode Y.1.2.1 pc = .ok (.astore_n k, 1)) (hi : (k : Nat) < Y.1.2.2.1) (hn : jnl ls k = true) (kk : jJ l G Y d bc bs n (pc + 1) (ls.set k (some .null)) st h K) : jJ l G Y d bc bs n pc ls (.null :: st) h K := by
  intro p e R s m args below meth c A H locs cells slots C S L0 L lsR stR C0 hR hL hS hl hst h1 h2 h3 h4
  obtain ⟨ws, e1, q⟩ := hst.n
  subst e1
  exact lv_astore_nN C0.1 C0.2.1 hd rfl (jall_has hl.1 hl.2.1) hi rfl fun ls' h' => kk p e R s m args below meth c A H locs cells slots C S L0 L ls' ws C0 hR hL hS (hl.st1 hn rfl h') q h1 h2 h3 h4
theorem J_astoreN {i : Nat} (hd : decode Y.1.2.1 pc = .ok (.astore i, 2)) (hi : i < Y.1.2.2.1) (hn : jnl ls i = true) (kk : jJ l G Y d bc bs n (pc + 2) (ls.set i (some .null)) st h K) : jJ l G Y d bc bs n pc ls (.null :: st) h K := by
  intro p e R s m args below meth c A H locs cells slots C S L0 L lsR stR C0 hR hL hS hl hst h1 h2 h3 h4
  obtain ⟨ws, e1, q⟩ := hst.n
  subst e1
  exact lv_astoreN C0.1 C0.2.1 hd (jall_has hl.1 hl.2.1) hi rfl fun ls' h' => kk p e R s m args below meth c A H locs cells slots C S L0 L ls' ws C0 hR hL hS (hl.st1 hn rfl h') q h1 h2 h3 h4
theorem J_iinc {i : Nat} {c0 : Int} {x v : Int32} (hd : decode Y.1.2.1 pc = .ok (.iinc i c0, 3)) (hx : ls[i]? = some (some (.int x))) (hv : x + Int32.ofInt c0 = v) (hi : i < Y.1.2.2.1) (hn : jnl ls i = true) (kk : jJ l G Y d bc bs n (pc + 3) (ls.set i (some (.int v))) st h K) : jJ l G Y d bc bs n pc ls st h K := by
  intro p e R s m args below meth c A H locs cells slots C S L0 L lsR stR C0 hR hL hS hl hst h1 h2 h3 h4
  obtain ⟨w, q1, q2⟩ := hl.2.2 _ _ hx
  rw [show w = _ from q1] at q2
  obtain ⟨k, hk⟩ := List.getElem?_of_mem (jall_mem q2)
  exact lv_iinc C0.1 C0.2.1 hd (jall_has hl.1 hl.2.1) hk hv hi rfl fun ls' h' => kk p e R s m args below meth c A H locs cells slots C S L0 L ls' stR C0 hR hL hS (hl.st1 hn rfl h') hst h1 h2 h3 h4
theorem jJ.b {P1 P2 : Prop} {pc1 pc2 : Nat} {st' : List Value} (k1 : P1 → jJ l G Y d bc bs n pc1 ls st' h K) (k2 : P2 → jJ l G Y d bc bs n pc2 ls st' h K)
    (hh : ∀ (L : List Nat) (stR : List Value), jvs L st stR → ∃ stR', jvs L st' stR' ∧ ∀ (p : Program) (e : Env) (R : Room) (s : State) (m : MethodId) (args : Array Value) (below : List Frame) (meth : Method) (c : Code) (H : Heap) (locs : List Loc) (cells slots : Nat) (Q : State → Prop) (lsR : Array Slot), p.tables.exec = Jvm.exec → c.code = Y.1.2.1 → (P1 → W p l e R s m args below meth c H locs cells slots Q (F0 m pc1 lsR stR')) → (P2 → W p l e R s m args below meth c H locs cells slots Q (F0 m pc2 lsR stR')) → W p l e R s m args below meth c H locs cells slots Q (F0 m pc lsR stR)) : jJ l G Y d bc bs n pc ls st h K := by
  intro p e R s m args below meth c A H locs cells slots C S L0 L lsR stR C0 hR hL hS hl hst h1 h2 h3 h4
  obtain ⟨stR', q1, q2⟩ := hh L stR hst
  exact q2 p e R s m args below meth c H locs cells slots _ lsR C0.1 C0.2.1 (fun z => k1 z p e R s m args below meth c A H locs cells slots C S L0 L lsR stR' C0 hR hL hS hl q1 h1 h2 h3 h4) (fun z => k2 z p e R s m args below meth c A H locs cells slots C S L0 L lsR stR' C0 hR hL hS hl q1 h1 h2 h3 h4)
theorem J_if_eq {x : Int32} {off : Int} {tgt : Nat} (hd : decode Y.1.2.1 pc = .ok (.ifCond .eq off, 3)) (ht : (pc : Int) + off = (tgt : Int)) (kt : x = 0 → jJ l G Y d bc bs n tgt ls st h K) (kf : ¬ x = 0 → jJ l G Y d bc bs n (pc + 3) ls st h K) : jJ l G Y d bc bs n pc ls (.int x :: st) h K :=
  jJ.b kt kf (fun L stR hst => by
    obtain ⟨_, e1, q1⟩ := hst.i
    subst e1
    exact ⟨_, q1, fun p e R s m args below meth c H locs cells slots Q lsR hx hb w1 w2 => lv_if_eq hx hb hd ht w1 w2⟩)
theorem J_icmp_eq {x y : Int32} {off : Int} {tgt : Nat} (hd : decode Y.1.2.1 pc = .ok (.if_icmp .eq off, 3)) (ht : (pc : Int) + off = (tgt : Int)) (kt : x = y → jJ l G Y d bc bs n tgt ls st h K) (kf : ¬ x = y → jJ l G Y d bc bs n (pc + 3) ls st h K) : jJ l G Y d bc bs n pc ls (.int y :: .int x :: st) h K :=
  jJ.b kt kf (fun L stR hst => by
    obtain ⟨_, e1, q1⟩ := hst.i
    obtain ⟨_, e2, q2⟩ := q1.i
    subst e2; subst e1
    exact ⟨_, q2, fun p e R s m args below meth c H locs cells slots Q lsR hx hb w1 w2 => lv_icmp_eq hx hb hd ht w1 w2⟩)
theorem J_if_ne {x : Int32} {off : Int} {tgt : Nat} (hd : decode Y.1.2.1 pc = .ok (.ifCond .ne off, 3)) (ht : (pc : Int) + off = (tgt : Int)) (kt : ¬ x = 0 → jJ l G Y d bc bs n tgt ls st h K) (kf : x = 0 → jJ l G Y d bc bs n (pc + 3) ls st h K) : jJ l G Y d bc bs n pc ls (.int x :: st) h K :=
  jJ.b kt kf (fun L stR hst => by
    obtain ⟨_, e1, q1⟩ := hst.i
    subst e1
    exact ⟨_, q1, fun p e R s m args below meth c H locs cells slots Q lsR hx hb w1 w2 => lv_if_ne hx hb hd ht w1 w2⟩)
theorem J_icmp_ne {x y : Int32} {off : Int} {tgt : Nat} (hd : decode Y.1.2.1 pc = .ok (.if_icmp .ne off, 3)) (ht : (pc : Int) + off = (tgt : Int)) (kt : ¬ x = y → jJ l G Y d bc bs n tgt ls st h K) (kf : x = y → jJ l G Y d bc bs n (pc + 3) ls st h K) : jJ l G Y d bc bs n pc ls (.int y :: .int x :: st) h K :=
  jJ.b kt kf (fun L stR hst => by
    obtain ⟨_, e1, q1⟩ := hst.i
    obtain ⟨_, e2, q2⟩ := q1.i
    subst e2; subst e1
    exact ⟨_, q2, fun p e R s m args below meth c H locs cells slots Q lsR hx hb w1 w2 => lv_icmp_ne hx hb hd ht w1 w2⟩)
theorem J_if_lt {x : Int32} {off : Int} {tgt : Nat} (hd : decode Y.1.2.1 pc = .ok (.ifCond .lt off, 3)) (ht : (pc : Int) + off = (tgt : Int)) (kt : x < 0 → jJ l G Y d bc bs n tgt ls st h K) (kf : ¬ x < 0 → jJ l G Y d bc bs n (pc + 3) ls st h K) : jJ l G Y d bc bs n pc ls (.int x :: st) h K :=
  jJ.b kt kf (fun L stR hst => by
    obtain ⟨_, e1, q1⟩ := hst.i
    subst e1
    exact ⟨_, q1, fun p e R s m args below meth c H locs cells slots Q lsR hx hb w1 w2 => lv_if_lt hx hb hd ht w1 w2⟩)
theorem J_icmp_lt {x y : Int32} {off : Int} {tgt : Nat} (hd : decode Y.1.2.1 pc = .ok (.if_icmp .lt off, 3)) (ht : (pc : Int) + off = (tgt : Int)) (kt : x < y → jJ l G Y d bc bs n tgt ls st h K) (kf : ¬ x < y → jJ l G Y d bc bs n (pc + 3) ls st h K) : jJ l G Y d bc bs n pc ls (.int y :: .int x :: st) h K :=
  jJ.b kt kf (fun L stR hst => by
    obtain ⟨_, e1, q1⟩ := hst.i
    obtain ⟨_, e2, q2⟩ := q1.i
    subst e2; subst e1
    exact ⟨_, q2, fun p e R s m args below meth c H locs cells slots Q lsR hx hb w1 w2 => lv_icmp_lt hx hb hd ht w1 w2⟩)
theorem J_if_ge {x : Int32} {off : Int} {tgt : Nat} (hd : decode Y.1.2.1 pc = .ok (.ifCond .ge off, 3)) (ht : (pc : Int) + off = (tgt : Int)) (kt : 0 ≤ x → jJ l G Y d bc bs n tgt ls st h K) (kf : ¬ 0 ≤ x → jJ l G Y d bc bs n (pc + 3) ls st h K) : jJ l G Y d bc bs n pc ls (.int x :: st) h K :=
  jJ.b kt kf (fun L stR hst => by
    obtain ⟨_, e1, q1⟩ := hst.i
    subst e1
    exact ⟨_, q1, fun p e R s m args below meth c H locs cells slots Q lsR hx hb w1 w2 => lv_if_ge hx hb hd ht w1 w2⟩)
theorem J_icmp_ge {x y : Int32} {off : Int} {tgt : Nat} (hd : decode Y.1.2.1 pc = .ok (.if_icmp .ge off, 3)) (ht : (pc : Int) + off = (tgt : Int)) (kt : y ≤ x → jJ l G Y d bc bs n tgt ls st h K) (kf : ¬ y ≤ x → jJ l G Y d bc bs n (pc + 3) ls st h K) : jJ l G Y d bc bs n pc ls (.int y :: .int x :: st) h K :=
  jJ.b kt kf (fun L stR hst => by
    obtain ⟨_, e1, q1⟩ := hst.i
    obtain ⟨_, e2, q2⟩ := q1.i
    subst e2; subst e1
    exact ⟨_, q2, fun p e R s m args below meth c H locs cells slots Q lsR hx hb w1 w2 => lv_icmp_ge hx hb hd ht w1 w2⟩)
theorem J_if_gt {x : Int32} {off : Int} {tgt : Nat} (hd : decode Y.1.2.1 pc = .ok (.ifCond .gt off, 3)) (ht : (pc : Int) + off = (tgt : Int)) (kt : 0 < x → jJ l G Y d bc bs n tgt ls st h K) (kf : ¬ 0 < x → jJ l G Y d bc bs n (pc + 3) ls st h K) : jJ l G Y d bc bs n pc ls (.int x :: st) h K :=
  jJ.b kt kf (fun L stR hst => by
    obtain ⟨_, e1, q1⟩ := hst.i
    subst e1
    exact ⟨_, q1, fun p e R s m args below meth c H locs cells slots Q lsR hx hb w1 w2 => lv_if_gt hx hb hd ht w1 w2⟩)
theorem J_icmp_gt {x y : Int32} {off : Int} {tgt : Nat} (hd : decode Y.1.2.1 pc = .ok (.if_icmp .gt off, 3)) (ht : (pc : Int) + off = (tgt : Int)) (kt : y < x → jJ l G Y d bc bs n tgt ls st h K) (kf : ¬ y < x → jJ l G Y d bc bs n (pc + 3) ls st h K) : jJ l G Y d bc bs n pc ls (.int y :: .int x :: st) h K :=
  jJ.b kt kf (fun L stR hst => by
    obtain ⟨_, e1, q1⟩ := hst.i
    obtain ⟨_, e2, q2⟩ := q1.i
    subst e2; subst e1
    exact ⟨_, q2, fun p e R s m args below meth c H locs cells slots Q lsR hx hb w1 w2 => lv_icmp_gt hx hb hd ht w1 w2⟩)
theorem J_if_le {x : Int32} {off : Int} {tgt : Nat} (hd : decode Y.1.2.1 pc = .ok (.ifCond .le off, 3)) (ht : (pc : Int) + off = (tgt : Int)) (kt : x ≤ 0 → jJ l G Y d bc bs n tgt ls st h K) (kf : ¬ x ≤ 0 → jJ l G Y d bc bs n (pc + 3) ls st h K) : jJ l G Y d bc bs n pc ls (.int x :: st) h K :=
  jJ.b kt kf (fun L stR hst => by
    obtain ⟨_, e1, q1⟩ := hst.i
    subst e1
    exact ⟨_, q1, fun p e R s m args below meth c H locs cells slots Q lsR hx hb w1 w2 => lv_if_le hx hb hd ht w1 w2⟩)
theorem J_icmp_le {x y : Int32} {off : Int} {tgt : Nat} (hd : decode Y.1.2.1 pc = .ok (.if_icmp .le off, 3)) (ht : (pc : Int) + off = (tgt : Int)) (kt : x ≤ y → jJ l G Y d bc bs n tgt ls st h K) (kf : ¬ x ≤ y → jJ l G Y d bc bs n (pc + 3) ls st h K) : jJ l G Y d bc bs n pc ls (.int y :: .int x :: st) h K :=
  jJ.b kt kf (fun L stR hst => by
    obtain ⟨_, e1, q1⟩ := hst.i
    obtain ⟨_, e2, q2⟩ := q1.i
    subst e2; subst e1
    exact ⟨_, q2, fun p e R s m args below meth c H locs cells slots Q lsR hx hb w1 w2 => lv_icmp_le hx hb hd ht w1 w2⟩)
theorem J_goto {off : Int} {tgt : Nat} (hd : decode Y.1.2.1 pc = .ok (.goto off, 3)) (ht : (pc : Int) + off = (tgt : Int)) (k : jJ l G Y d bc bs n tgt ls st h K) : jJ l G Y d bc bs n pc ls st h K :=
  jJ.s k (fun L stR hst => ⟨_, hst, fun p e R s m args below meth c H locs cells slots Q lsR hx hb w => lv_goto hx hb hd ht w⟩)
theorem J_ifnull {x : Nat} {off : Int} (hd : decode Y.1.2.1 pc = .ok (.ifnull off, 3)) (k : jJ l G Y d bc bs n (pc + 3) ls st h K) : jJ l G Y d bc bs n pc ls (.ref x :: st) h K :=
  jJ.s k (fun L stR hst => by
    obtain ⟨_, _, e1, _, q1⟩ := hst.r
    subst e1
    exact ⟨_, q1, fun p e R s m args below meth c H locs cells slots Q lsR hx hb w => lv_ifnull hx hb hd w⟩)
theorem J_ifnullN {off : Int} {tgt : Nat} (hd : decode Y.1.2.1 pc = .ok (.ifnull off, 3)) (ht : (pc : Int) + off = (tgt : Int)) (k : jJ l G Y d bc bs n tgt ls st h K) : jJ l G Y d bc bs n pc ls (.null :: st) h K :=
  jJ.s k (fun L stR hst => by
    obtain ⟨_, e1, q1⟩ := hst.n
    subst e1
    exact ⟨_, q1, fun p e R s m args below meth c H locs cells slots Q lsR hx hb w => lv_ifnullN hx hb hd ht w⟩)
theorem J_ifnonnull {x : Nat} {off : Int} {tgt : Nat} (hd : decode Y.1.2.1 pc = .ok (.ifnonnull off, 3)) (ht : (pc : Int) + off = (tgt : Int)) (k : jJ l G Y d bc bs n tgt ls st h K) : jJ l G Y d bc bs n pc ls (.ref x :: st) h K :=
  jJ.s k (fun L stR hst => by
    obtain ⟨_, _, e1, _, q1⟩ := hst.r
    subst e1
    exact ⟨_, q1, fun p e R s m args below meth c H locs cells slots Q lsR hx hb w => lv_ifnonnull hx hb hd ht w⟩)
theorem J_ifnonnullN {off : Int} (hd : decode Y.1.2.1 pc = .ok (.ifnonnull off, 3)) (k : jJ l G Y d bc bs n (pc + 3) ls st h K) : jJ l G Y d bc bs n pc ls (.null :: st) h K :=
  jJ.s k (fun L stR hst => by
    obtain ⟨_, e1, q1⟩ := hst.n
    subst e1
    exact ⟨_, q1, fun p e R s m args below meth c H locs cells slots Q lsR hx hb w => lv_ifnonnullN hx hb hd w⟩)
theorem J_tableOut {dflt lo hi : Int} {offs : Array Int} {len : Nat} {x : Int32} {tgt : Nat} (hd : decode Y.1.2.1 pc = .ok (.tableswitch dflt lo hi offs, len)) (hr : x.toInt < lo ∨ hi < x.toInt) (ht : (pc : Int) + dflt = (tgt : Int)) (k : jJ l G Y d bc bs n tgt ls st h K) : jJ l G Y d bc bs n pc ls (.int x :: st) h K :=
  jJ.s k (fun L stR hst => by
    obtain ⟨_, e1, q1⟩ := hst.i
    subst e1
    exact ⟨_, q1, fun p e R s m args below meth c H locs cells slots Q lsR hx hb w => lv_tableOut hx hb hd hr ht w⟩)
theorem J_tableIn {dflt lo hi : Int} {offs : Array Int} {len : Nat} {x : Int32} {off : Int} {tgt : Nat} (hd : decode Y.1.2.1 pc = .ok (.tableswitch dflt lo hi offs, len)) (h1 : ¬ x.toInt < lo) (h2 : ¬ hi < x.toInt) (ho : offs[(x.toInt - lo).toNat]? = some off) (ht : (pc : Int) + off = (tgt : Int)) (k : jJ l G Y d bc bs n tgt ls st h K) : jJ l G Y d bc bs n pc ls (.int x :: st) h K :=
  jJ.s k (fun L stR hst => by
    obtain ⟨_, e1, q1⟩ := hst.i
    subst e1
    exact ⟨_, q1, fun p e R s m args below meth c H locs cells slots Q lsR hx hb w => lv_tableIn hx hb hd h1 h2 ho ht w⟩)
theorem J_lcmp {x y : Int64} (hd : decode Y.1.2.1 pc = .ok (.lcmp, 1)) (k : jJ l G Y d bc bs n (pc + 1) ls (.int (lg_cmp x y) :: st) h K) : jJ l G Y d bc bs n pc ls (.long y :: .long x :: st) h K :=
  jJ.s k (fun L stR hst => by
    obtain ⟨_, e1, q1⟩ := hst.lg
    obtain ⟨_, e2, q2⟩ := q1.lg
    subst e2; subst e1
    exact ⟨_, q2.ic, fun p e R s m args below meth c H locs cells slots Q lsR hx hb w => W.lcmp hx hb hd w⟩)
theorem J_ldc {index : Nat} {v : Int32} (hd : decode Y.1.2.1 pc = .ok (.ldc index, 2)) (hw : Cond.constant Y.1.1.cls index v ∈ lw_tbl) (kk : jJ l G Y d bc bs n (pc + 2) ls (.int v :: st) h K) : jJ l G Y d bc bs n pc ls st h K := by
  intro p e R s m args below meth c A H locs cells slots C S L0 L lsR stR C0 hR hL hS hl hst h1 h2 h3 h4
  exact lv_ldc C0.1 C0.2.1 C0.2.2.2.2.1 (C0.2.2.2.2.2.2.2.2.2.2.2.1.1 _ hw rfl args) hd (kk p e R s m args below meth c A H locs cells slots C S L0 L lsR (.int v :: stR) C0 hR hL hS hl ⟨_, _, rfl, rfl, hst⟩ h1 h2 h3 h4)
theorem J_ldcw {index : Nat} {v : Int32} (hd : decode Y.1.2.1 pc = .ok (.ldc_w index, 3)) (hw : Cond.constant Y.1.1.cls index v ∈ lw_tbl) (kk : jJ l G Y d bc bs n (pc + 3) ls (.int v :: st) h K) : jJ l G Y d bc bs n pc ls st h K := by
  intro p e R s m args below meth c A H locs cells slots C S L0 L lsR stR C0 hR hL hS hl hst h1 h2 h3 h4
  exact lv_ldcw C0.1 C0.2.1 C0.2.2.2.2.1 (C0.2.2.2.2.2.2.2.2.2.2.2.1.1 _ hw rfl args) hd (kk p e R s m args below meth c A H locs cells slots C S L0 L lsR (.int v :: stR) C0 hR hL hS hl ⟨_, _, rfl, rfl, hst⟩ h1 h2 h3 h4)
theorem J_ldc2 {index : Nat} {v : Int64} (hd : decode Y.1.2.1 pc = .ok (.ldc2_w index, 3)) (hw : Cond.constantLong Y.1.1.cls index v ∈ lw_tbl) (kk : jJ l G Y d bc bs n (pc + 3) ls (.long v :: st) h K) : jJ l G Y d bc bs n pc ls st h K := by
  intro p e R s m args below meth c A H locs cells slots C S L0 L lsR stR C0 hR hL hS hl hst h1 h2 h3 h4
  exact lv_ldc2 C0.1 C0.2.1 C0.2.2.2.2.1 (C0.2.2.2.2.2.2.2.2.2.2.2.1.1 _ hw rfl args) hd (kk p e R s m args below meth c A H locs cells slots C S L0 L lsR (.long v :: stR) C0 hR hL hS hl ⟨_, _, rfl, rfl, hst⟩ h1 h2 h3 h4)
end JL
