/-! an exception of a callee, caught by this method's own table; the class that a row names may be resolved here for the first time -/
/-- one row that covers the place: its class is linked; either it takes the object or the search goes on -/
theorem jx_row {Q : Handler → Pre} {E : CtlPost} {e : Env} {d : Bool} {acts : List Action} {s : State} {f : JFrame} {a : Addr} {x : ExceptionTableEntry} {t : List ExceptionTableEntry} {k : ClassId} {cell : Cell} (hx : covers x f.pc = true) (h0 : x.catchType ≠ 0)
    (hl : s.vm.ClassLinks e.platform f.method.cls x.catchType k) (hcell : s.heap[a]? = some cell) (hobj : ∀ z, cell.vm ≠ .statics z) (hk : ∃ z, s.vm.classes[cell.cls]? = some z) (hc : ∃ z, s.vm.classes[k]? = some z) :
    wp (findHandler.go f a (x :: t)) Q E e d acts s ↔ if s.vm.assignable cell.cls k = true then Q (.found x.handlerPc) d acts (s.setVm (s.vm.noted f.method.cls x.catchType (.cls k))) else wp (findHandler.go f a t) Q E e d acts (s.setVm (s.vm.noted f.method.cls x.catchType (.cls k))) := by
  simp only [covers] at hx
  have hal : s.vm.Alike (s.vm.noted f.method.cls x.catchType (.cls k)) := Vm.Alike.noted (Vm.Alike.refl s.vm) _ _ _
  have hop := (resolveClass_links e.toSetting hl).op (op := VmOp.resolveClass f.method.cls x.catchType) rfl
  obtain ⟨z1, hz1⟩ := hk
  obtain ⟨z2, hz2⟩ := hc
  obtain ⟨y1, hy1, -⟩ := hal.2.2 _ _ hz1
  obtain ⟨y2, hy2, -⟩ := hal.2.2 _ _ hz2
  have has := hal.assignable cell.cls k
  by_cases hb : s.vm.assignable cell.cls k = true
  · rw [hb] at has
    simp [findHandler.go, hx, h0, hop.1, hop.2, hcell, hobj, hy1, hy2, has, hb, VmOp.dirties, VmOp.acts]
  · have hb' : s.vm.assignable cell.cls k = false := by simpa using hb
    rw [hb'] at has
    simp [findHandler.go, hx, h0, hop.1, hop.2, hcell, hobj, hy1, hy2, has, hb', VmOp.dirties, VmOp.acts]
/-- exceptions of the class E are not of the class nm -/
def jno (E nm : String) : Prop := (E = "java/lang/IllegalStateException" ∨ E = "java/lang/UnsupportedOperationException") ∧ nm = "java/lang/IllegalArgumentException"
/-- at pc the table takes an E to the handler t -/
def jcat (own : String) (pc : Nat) (E : String) : List (Nat × Nat × Nat × Nat) → Nat → Prop
  | [], _ => False
  | x :: r, t => (x.1 ≤ pc ∧ pc < x.2.1) ∧ x.2.2.2 ≠ 0 ∧ ∃ nm, Cond.classLink own x.2.2.2 nm ∈ lw_tbl ∧ ((nm = E ∧ Cond.castable E E ∈ lw_tbl ∧ t = x.2.2.1) ∨ (jno E nm ∧ jcat own pc E r t))
theorem jx_go {G : jG} {A : Nat → Prop} {s : State} {e : Env} {own E : String} {f : JFrame} {a : Addr} {cell : Cell} (hpl : e.platform.magicAccessors = ({} : Platform).magicAccessors) (hg : jg G A s) (hown : s.vm.findClass own = some f.method.cls) (hvm : cell.vm = .none) (hcl : s.vm.findClass E = some cell.cls) :
    ∀ (xs : List ExceptionTableEntry) (t : Nat) (S : State), jcat own f.pc E (xs.map fun x => (x.startPc, x.endPc, x.handlerPc, x.catchType)) t → s.WarmedH S.vm → S.heap[a]? = some cell →
      ∃ vm', s.WarmedH vm' ∧ ∀ (Q : Handler → Pre) (E : CtlPost) (d : Bool) (acts : List Action), wp (findHandler.go f a xs) Q E e d acts S ↔ Q (.found t) d acts (S.setVm vm') := by
  obtain ⟨k0, hk0⟩ := Vm.classAt_of_findClass hcl
  intro xs
  induction xs with
  | nil => intro t S h; exact h.elim
  | cons x xs ih =>
    intro t S h hW hcell
    obtain ⟨hcov, h0, nm, hnm, hor⟩ := h
    obtain ⟨k, hfk, hlk⟩ := Cond.classLink_spec hown (hg.1 _ hnm rfl #[]) e.platform hpl
    obtain ⟨dk, _, _, kt, hd, _, _, _, _, hkt, _, hopen⟩ := hlk.here
    obtain ⟨y0, hy0, -⟩ := hW.alike.2.2 _ _ hk0
    obtain ⟨y1, hy1, -⟩ := hW.alike.2.2 _ _ hkt
    have hc' : covers x f.pc = true := by simp [covers]; exact hcov
    have hrow := fun (Q : Handler → Pre) (E : CtlPost) (d : Bool) (acts : List Action) => jx_row (Q := Q) (E := E) (d := d) (acts := acts) (e := e) (s := S) (f := f) (a := a) (t := xs) (cell := cell) hc' h0 (hW.classLinks hlk) hcell (fun z hz => by rw [hvm] at hz; cases hz) ⟨y0, hy0⟩ ⟨y1, hy1⟩
    have hWn := hW.noted hd hopen (State.rightAt_cls hlk)
    rcases hor with ⟨e1, hca, e2⟩ | ⟨hno, hrest⟩
    · subst e1; subst e2
      obtain ⟨c1, c2, g1, g2, g3⟩ := Cond.castable_spec (va_Nw.use (A := #[]) rfl (hg.2.2.2.2.2.2.2.2.1 _ _ hca))
      cases g1.symm.trans hcl
      cases g2.symm.trans hcl
      cases hfk.symm.trans hcl
      refine ⟨_, hWn, fun Q E d acts => ?_⟩
      rw [hrow, if_pos (by rw [hW.alike.assignable]; exact g3)]
    · have hna : s.vm.assignable cell.cls k = false := by
        obtain ⟨hE, hn⟩ := hno
        rcases hE with hE | hE
        · obtain ⟨c1, c2, g1, g2, g3⟩ := hg.2.2.2.2.2.2.1
          rw [hE] at hcl; rw [hn] at hfk
          cases g1.symm.trans hcl
          cases g2.symm.trans hfk
          exact g3
        · obtain ⟨c1, c2, g1, g2, g3⟩ := hg.2.2.2.2.2.2.2.1
          rw [hE] at hcl; rw [hn] at hfk
          cases g1.symm.trans hcl
          cases g2.symm.trans hfk
          exact g3
      obtain ⟨vm', q1, q2⟩ := ih t (S.setVm (S.vm.noted f.method.cls x.catchType (.cls k))) hrest hWn hcell
      refine ⟨vm', q1, fun Q E d acts => ?_⟩
      rw [hrow, if_neg (by rw [hW.alike.assignable, hna]; decide)]
      exact q2 Q E d acts
/-- the thread's step: the frame goes on at the handler, the object alone on its stack -/
theorem jx_step {e : Env} {s : State} {a : Addr} {f : JFrame} {r : List Frame} {t : Nat} {vm' : Vm} (hf : ∀ (Q : Handler → Pre) (E : CtlPost) (d : Bool) (acts : List Action), wp (findHandler f a) Q E e d acts s ↔ Q (.found t) d acts (s.setVm vm')) :
    (stepThrowing e s a (.java f :: r)).Is ((s.setVm vm').setFrames (.java { f with pc := t, stack := [.ref a] } :: r)) [] := by
  simp only [stepThrowing, searchFrame, vmDo]
  generalize hr : Sem.go _ e false [] s = res
  obtain ⟨as, rfl, ha⟩ := Sem.eq_ok_of hr (a := Handler.found t) (s' := s.setVm vm') (acts' := []) (by simp [hf _ _ _ _])
  exact ⟨rfl, ha⟩
