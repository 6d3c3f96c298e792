/-! The judgement J: the machine's W over an abstract heap. A reference is a position; L gives each position its address. -/
/-- a method: name, bytes, locals, answer -/
abbrev jM : Type := MethodName × ByteArray × Nat × Option FieldType
/-- the abstract heap: position to (kind, slots); kinds 0..7: vwCl; 10 int[], 11 long[], 12 boolean[], 13 Table[]; 20 the script; 30 something of which nothing is said -/
abbrev jH : Type := Nat → Nat × List Value
abbrev jG : Type := va_G × (Nat → ClassId)
/-- how a method ends: it returned, or threw an object of that class -/
abbrev jO : Type := Option Value ⊕ String
abbrev jK : Type := jO → Nat → jH → Prop
def jv (L : List Nat) (v w : Value) : Prop := match v with
  | .ref k => ∃ a, L[k]? = some a ∧ w = .ref a
  | v => w = v
def jvs (L : List Nat) : List Value → List Value → Prop
  | [], ws => ws = []
  | v :: vs, ws => ∃ w ws', ws = w :: ws' ∧ jv L v w ∧ jvs L vs ws'
def jle (L L' : List Nat) : Prop := ∀ (k a : Nat), L[k]? = some a → L'[k]? = some a
theorem jle.rf {L : List Nat} : jle L L := fun _ _ h => h
theorem jle.tr {L L' L'' : List Nat} (h : jle L L') (h' : jle L' L'') : jle L L'' := fun k a q => h' k a (h k a q)
theorem jle.push {L : List Nat} (q : Nat) : jle L (L ++ [q]) := fun k a h => by
  rw [List.getElem?_append_left (List.getElem?_eq_some_iff.mp h).1]; exact h
theorem jv.mono {L L' : List Nat} (hL : jle L L') {v w : Value} (h : jv L v w) : jv L' v w := by
  cases v with
  | ref k => obtain ⟨a, h1, h2⟩ := h; exact ⟨a, hL k a h1, h2⟩
  | _ => exact h
theorem jvs.mono {L L' : List Nat} (hL : jle L L') : ∀ {vs ws : List Value}, jvs L vs ws → jvs L' vs ws
  | [], _, h => h
  | _ :: _, _, ⟨w, ws', e, h1, h2⟩ => ⟨w, ws', e, h1.mono hL, jvs.mono hL h2⟩
theorem jvs.len {L : List Nat} : ∀ {vs ws : List Value}, jvs L vs ws → ws.length = vs.length
  | [], _, h => by rw [show _ = [] from h]
  | _ :: _, _, ⟨w, ws', e, _, h2⟩ => by rw [e, List.length_cons, List.length_cons, jvs.len h2]
theorem jvs.get {L : List Nat} : ∀ {vs ws : List Value}, jvs L vs ws → ∀ {k : Nat} {v : Value}, vs[k]? = some v → ∃ w, ws[k]? = some w ∧ jv L v w
  | [], _, _, k, v, h => by simp at h
  | x :: vs, _, ⟨w, ws', e, h1, h2⟩, k, v, h => by
    subst e
    cases k with
    | zero => simp at h; subst h; exact ⟨w, by simp, h1⟩
    | succ k => simp at h; obtain ⟨w', q1, q2⟩ := jvs.get h2 h; exact ⟨w', by simpa using q1, q2⟩
theorem jvs.set {L : List Nat} : ∀ {vs ws : List Value}, jvs L vs ws → ∀ (k : Nat) {v w : Value}, jv L v w → jvs L (vs.set k v) (ws.set k w)
  | [], _, h, k, v, w, _ => by rw [show _ = [] from h]; exact rfl
  | x :: vs, _, ⟨w0, ws', e, h1, h2⟩, k, v, w, h => by
    subst e
    cases k with
    | zero => exact ⟨w, ws', rfl, h, h2⟩
    | succ k => exact ⟨w0, ws'.set k w, rfl, h1, jvs.set h2 k h⟩
theorem jvs.app {L : List Nat} : ∀ {vs ws vs' ws' : List Value}, jvs L vs ws → jvs L vs' ws' → jvs L (vs ++ vs') (ws ++ ws')
  | [], _, _, _, h, h' => by rw [show _ = [] from h]; exact h'
  | _ :: _, _, _, _, ⟨w, ws1, e, h1, h2⟩, h' => by subst e; exact ⟨w, ws1 ++ _, rfl, h1, jvs.app h2 h'⟩
theorem jvs.split {L : List Nat} : ∀ {vs vs' ws : List Value}, jvs L (vs ++ vs') ws → ∃ w1 w2, ws = w1 ++ w2 ∧ jvs L vs w1 ∧ jvs L vs' w2
  | [], _, ws, h => ⟨[], ws, rfl, rfl, h⟩
  | v :: vs, vs', _, ⟨w, ws1, e, h1, h2⟩ => by
    obtain ⟨w1, w2, e2, h3, h4⟩ := jvs.split h2
    exact ⟨w :: w1, w2, by rw [e, e2]; rfl, ⟨w, w1, rfl, h1, h3⟩, h4⟩
theorem jvs.rev {L : List Nat} : ∀ {vs ws : List Value}, jvs L vs ws → jvs L vs.reverse ws.reverse
  | [], _, h => by rw [show _ = [] from h]; exact rfl
  | v :: vs, _, ⟨w, ws1, e, h1, h2⟩ => by
    subst e
    rw [List.reverse_cons, List.reverse_cons]
    exact (jvs.rev h2).app ⟨w, [], rfl, h1, rfl⟩
theorem jv.cat {L : List Nat} {v w : Value} (h : jv L v w) : w.category = v.category := by
  cases v with
  | ref k => obtain ⟨a, _, e⟩ := h; subst e; rfl
  | _ => rw [show w = _ from h]
theorem jvs.cat {L : List Nat} : ∀ {vs ws : List Value}, jvs L vs ws → (ws.map fun v => v.category) = vs.map fun v => v.category
  | [], _, h => by rw [show _ = [] from h]
  | _ :: _, _, ⟨w, ws', e, h1, h2⟩ => by rw [e, List.map_cons, List.map_cons, h1.cat, jvs.cat h2]
/-- the tables' array kinds -/
def jty (k : Nat) : FieldType := match k with
  | 10 => .int
  | 11 => .long
  | 12 => .boolean
  | _ => .object "InterchangeDesk$Table"
def jtys (G : jG) : List (ClassId × FieldType) := [(G.2 10, jty 10), (G.2 11, jty 11), (G.2 12, jty 12), (G.2 13, jty 13)]
/-- what the heap H holds at the address a of a position that holds c -/
def jcl (G : jG) (A : Nat → Prop) (s : State) (L : List Nat) (H : Heap) (a : Nat) (c : Nat × List Value) : Prop :=
  ∃ ws, jvs L c.2 ws ∧
    ((c.1 < 8 ∧ A a ∧ va_at G.1 vwCl (a, .inr (c.1, ws)) H) ∨
     (10 ≤ c.1 ∧ c.1 < 14 ∧ A a ∧ H[a]? = some (arrV (G.2 c.1) ws.length (vp_V ws))) ∨
     (c.1 = 20 ∧ ∃ scr : Cell, H[a]? = some scr ∧ s.isArrayOf scr .int ∧ scr.vm ≠ .unknown ∧ scr.slots.size = ws.length ∧ ∀ j, j < ws.length → scr.slots[j]? = some (vp_V ws j)) ∨
     c.1 = 30)
def jRel (G : jG) (A : Nat → Prop) (s : State) (L : List Nat) (n : Nat) (h : jH) (H : Heap) : Prop :=
  L.length = n ∧ (∀ (i j a : Nat), (h i).1 ≠ 30 → (h j).1 ≠ 30 → L[i]? = some a → L[j]? = some a → i = j) ∧ ∀ (k a : Nat), L[k]? = some a → jcl G A s L H a (h k)
theorem jcl.mono {G : jG} {A B : Nat → Prop} {s u : State} {L L' : List Nat} {H : Heap} {a : Nat} {c : Nat × List Value} (hA : ∀ q, A q → B q) (hs : s.vm.Alike u.vm) (hL : jle L L') (h : jcl G A s L H a c) : jcl G B u L' H a c := by
  obtain ⟨ws, h1, h2⟩ := h
  refine ⟨ws, h1.mono hL, ?_⟩
  rcases h2 with ⟨x, y, z⟩ | ⟨x, x', y, z⟩ | ⟨x, scr, y1, y2, y3⟩ | x
  · exact Or.inl ⟨x, hA _ y, z⟩
  · exact Or.inr (Or.inl ⟨x, x', hA _ y, z⟩)
  · exact Or.inr (Or.inr (Or.inl ⟨x, scr, y1, State.isArrayOf_alike hs y2, y3⟩))
  · exact Or.inr (Or.inr (Or.inr x))
theorem jRel.mono {G : jG} {A B : Nat → Prop} {s u : State} {L : List Nat} {n : Nat} {h : jH} {H : Heap} (hA : ∀ q, A q → B q) (hs : s.vm.Alike u.vm) (hR : jRel G A s L n h H) : jRel G B u L n h H :=
  ⟨hR.1, hR.2.1, fun k a q => (hR.2.2 k a q).mono hA hs jle.rf⟩
theorem jcl.kept {G : jG} {A : Nat → Prop} {s : State} {L : List Nat} {H H1 : Heap} {a : Nat} {c : Nat × List Value} (h : jcl G A s L H a c) (hq : c.1 ≠ 30 → H1[a]? = H[a]?) : jcl G A s L H1 a c := by
  obtain ⟨ws, h1, h2⟩ := h
  refine ⟨ws, h1, ?_⟩
  rcases h2 with ⟨x, y, z⟩ | ⟨x, x', y, z⟩ | ⟨x, scr, y1, y2, y3⟩ | x
  · exact Or.inl ⟨x, y, va_at.kept z (hq (by omega))⟩
  · exact Or.inr (Or.inl ⟨x, x', y, by rw [hq (by omega)]; exact z⟩)
  · exact Or.inr (Or.inr (Or.inl ⟨x, scr, by rw [hq (by omega)]; exact y1, y2, y3⟩))
  · exact Or.inr (Or.inr (Or.inr x))
theorem jcl.lt {G : jG} {A : Nat → Prop} {s : State} {L : List Nat} {H : Heap} {a : Nat} {c : Nat × List Value} (h : jcl G A s L H a c) (hc : c.1 ≠ 30) : a < H.size := by
  obtain ⟨ws, h1, h2⟩ := h
  rcases h2 with ⟨x, y, z⟩ | ⟨x, x', y, z⟩ | ⟨x, scr, y1, y2, y3⟩ | x
  · exact va_at.lt z
  · exact (Array.getElem?_eq_some_iff.mp z).1
  · exact (Array.getElem?_eq_some_iff.mp y1).1
  · exact absurd x hc
/-- the heap with position k holding c -/
def jup (h : jH) (k : Nat) (c : Nat × List Value) : jH := fun j => if j = k then c else h j
theorem jup_same {h : jH} {k : Nat} {c : Nat × List Value} : jup h k c k = c := by simp [jup]
theorem jup_ne {h : jH} {k j : Nat} {c : Nat × List Value} (hj : j ≠ k) : jup h k c j = h j := by simp [jup, hj]
/-- one position is written -/
theorem jRel.set {G : jG} {A : Nat → Prop} {s : State} {L : List Nat} {n : Nat} {h : jH} {H H1 : Heap} (hR : jRel G A s L n h H) {k a : Nat} {c : Nat × List Value} (hk : L[k]? = some a) (h30 : (h k).1 ≠ 30) (hc : c.1 ≠ 30) (hcl : jcl G A s L H1 a c) (oq : ∀ q, q ≠ a → H1[q]? = H[q]?) : jRel G A s L n (jup h k c) H1 := by
  obtain ⟨r1, r2, r3⟩ := hR
  have e30 : ∀ i, (jup h k c i).1 ≠ 30 → (h i).1 ≠ 30 := fun i hi => by
    by_cases e : i = k
    · rw [e]; exact h30
    · rw [jup_ne e] at hi; exact hi
  refine ⟨r1, fun i j b hi hj h1 h2 => r2 i j b (e30 i hi) (e30 j hj) h1 h2, fun j b hj => ?_⟩
  by_cases e : j = k
  · subst e
    cases hk.symm.trans hj
    rw [jup_same]; exact hcl
  · rw [jup_ne e]
    refine (r3 j b hj).kept fun hx => oq b fun hb => e ?_
    subst hb
    exact r2 j k b hx h30 hj hk
/-- a position is added -/
theorem jRel.push {G : jG} {A : Nat → Prop} {s : State} {L : List Nat} {n : Nat} {h : jH} {H H1 : Heap} (hR : jRel G A s L n h H) {a : Nat} {c : Nat × List Value} (ha : a = H.size) (hcl : jcl G A s (L ++ [a]) H1 a c) (oq : ∀ q, q < H.size → H1[q]? = H[q]?) : jRel G A s (L ++ [a]) (n + 1) (jup h n c) H1 := by
  obtain ⟨r1, r2, r3⟩ := hR
  have hin : ∀ (k b : Nat), (L ++ [a])[k]? = some b → (k < n ∧ L[k]? = some b) ∨ (k = n ∧ b = a) := fun k b hk => by
    rcases Nat.lt_or_ge k n with q | q
    · rw [List.getElem?_append_left (by omega)] at hk; exact Or.inl ⟨q, hk⟩
    · rw [List.getElem?_append_right (by omega)] at hk
      have : k - L.length = 0 := by
        have := (List.getElem?_eq_some_iff.mp hk).1
        simp at this; omega
      rw [this] at hk
      simp at hk
      exact Or.inr ⟨by omega, hk.symm⟩
  refine ⟨by simp [r1], fun i j b hi hj h1 h2 => ?_, fun k b hk => ?_⟩
  · rcases hin i b h1 with ⟨p1, p2⟩ | ⟨p1, p2⟩ <;> rcases hin j b h2 with ⟨q1, q2⟩ | ⟨q1, q2⟩
    · rw [jup_ne (by omega)] at hi hj; exact r2 i j b hi hj p2 q2
    · rw [jup_ne (by omega)] at hi
      have := (r3 i b p2).lt hi
      omega
    · rw [jup_ne (by omega)] at hj
      have := (r3 j b q2).lt hj
      omega
    · omega
  · rcases hin k b hk with ⟨p1, p2⟩ | ⟨p1, p2⟩
    · rw [jup_ne (by omega)]
      have hq := r3 k b p2
      exact (hq.kept fun hx => oq b (hq.lt hx)).mono (fun _ z => z) (Vm.Alike.refl _) (jle.push a)
    · subst p1; subst p2
      rw [jup_same]; exact hcl
