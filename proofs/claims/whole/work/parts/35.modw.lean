/-! the model at position 116, its arrays behind it -/
abbrev mS : Type := (Nat → Int) × (Nat → List Int)
def mtab : List (Nat × Int × Int) := [(0, 0, 2), (0, 0, 400), (400, 0, 126), (4, 0, 24), (96, 0, 16777215), (96, 0, 1), (96, 0, 99), (96, -1, 23), (4, -1, 23), (0, 0, 126), (0, 0, 126), (0, 0, 126), (0, 0, 126), (0, -1, 400), (0, 0, 40), (41, 0, 16777215), (42, 0, 121), (0, 0, 121), (124, 0, 121), (0, 0, 121), (124, 0, 400), (0, 0, 400), (400, 0, 126), (0, 0, 1), (0, 0, 40), (41, 0, 16777215), (42, 0, 121), (0, 0, 121), (124, 0, 121), (0, 0, 121), (124, 0, 400), (400, 0, 126), (0, 0, 3), (0, 0, 20), (20, 0, 40), (20, 0, 40), (20, -1, 19), (20, 0, 7), (20, -1, 40), (0, 0, 20), (20, 0, 40), (20, 0, 40), (20, 0, 3), (0, -1, 23), (0, 0, 99), (0, 0, 4), (4, 0, 23), (4, 0, 99), (0, 0, 1200), (1200, 0, 255), (0, 0, 2400), (2400, 0, 255), (0, 0, 1)]
def aposL : List Nat := [0, 0, 117, 118, 119, 120, 121, 122, 123, 0, 0, 0, 0, 0, 0, 124, 125, 0, 126, 0, 127, 0, 128, 0, 0, 129, 130, 0, 131, 0, 132, 133, 0, 0, 134, 135, 136, 137, 138, 0, 139, 140, 141, 0, 0, 0, 142, 143, 0, 144, 0, 145, 0]
def apos (k : Nat) : Nat := aposL.getD k 0
def akd (k : Nat) : Nat := if k = 5 then 12 else 10
def marr (k : Nat) : Bool := decide (k < 53) && decide (apos k ≠ 0)
def mfs (I : Nat → Int) : List Value := [vi (I 0), vi (I 1), .ref 117, .ref 118, .ref 119, .ref 120, .ref 121, .ref 122, .ref 123, vi (I 9), vi (I 10), vi (I 11), vi (I 12), vi (I 13), vi (I 14), .ref 124, .ref 125, vi (I 17), .ref 126, vi (I 19), .ref 127, vi (I 21), .ref 128, vi (I 23), vi (I 24), .ref 129, .ref 130, vi (I 27), .ref 131, vi (I 29), .ref 132, .ref 133, vi (I 32), vi (I 33), .ref 134, .ref 135, .ref 136, .ref 137, .ref 138, vi (I 39), .ref 139, .ref 140, .ref 141, vi (I 43), vi (I 44), vi (I 45), .ref 142, .ref 143, vi (I 48), .ref 144, vi (I 50), .ref 145, vi (I 52)]
def jMod (h : jH) (σ : mS) : Prop := h 116 = (7, mfs σ.1) ∧ ∀ k, marr k = true → h (apos k) = (akd k, (σ.2 k).map vi)
def mown (k : Nat) : Prop := 116 ≤ k ∧ k < 146
def wfm (σ : mS) : Prop := ∀ k, k < 53 → ((mtab.getD k (0, 0, 0)).2.1 ≤ σ.1 k ∧ σ.1 k ≤ (mtab.getD k (0, 0, 0)).2.2) ∧ (σ.2 k).length = (mtab.getD k (0, 0, 0)).1 ∧ ∀ x ∈ σ.2 k, (mtab.getD k (0, 0, 0)).2.1 ≤ x ∧ x ≤ (mtab.getD k (0, 0, 0)).2.2
def upF {α : Type} (I : Nat → α) (k : Nat) (v : α) : Nat → α := fun j => if j = k then v else I j
def mfl (σ : mS) (k : Nat) (v : Int) : mS := (upF σ.1 k v, σ.2)
def mar (σ : mS) (k : Nat) (i v : Int) : mS := (σ.1, upF σ.2 k ((σ.2 k).set i.toNat v))
def mat (xs : List Int) (i : Int) : Int := xs.getD i.toNat 0
theorem mtab0 : ∀ k, k < 53 → (mtab.getD k (0, 0, 0)).2.1 ≤ 0 ∧ 0 ≤ (mtab.getD k (0, 0, 0)).2.2 := by decide
theorem apos_inj : ∀ a, a < 53 → ∀ b, b < 53 → marr a = true → apos a = apos b → a = b := by decide +kernel
theorem apos_own : ∀ a, a < 53 → marr a = true → 117 ≤ apos a ∧ apos a < 146 := by decide
theorem marr_lt {k : Nat} (h : marr k = true) : k < 53 := by
  unfold marr at h; simp at h; exact h.1
theorem wfm.rat {σ : mS} (hw : wfm σ) {k : Nat} (hk : k < 53) (i : Int) : (mtab.getD k (0, 0, 0)).2.1 ≤ mat (σ.2 k) i ∧ mat (σ.2 k) i ≤ (mtab.getD k (0, 0, 0)).2.2 := by
  unfold mat
  have key : (σ.2 k).getD i.toNat 0 = ((σ.2 k)[i.toNat]?).getD 0 := List.getD_eq_getElem?_getD
  rw [key]
  cases hx : (σ.2 k)[i.toNat]? with
  | none => exact mtab0 k hk
  | some x => exact (hw k hk).2.2 x (List.mem_of_getElem? hx)
theorem wfm_f {σ : mS} {k : Nat} {v : Int} (hw : wfm σ) (hv : (mtab.getD k (0, 0, 0)).2.1 ≤ v ∧ v ≤ (mtab.getD k (0, 0, 0)).2.2) : wfm (mfl σ k v) := by
  intro j hj
  refine ⟨?_, (hw j hj).2⟩
  simp only [mfl, upF]
  split
  · rename_i e; rw [e]; exact hv
  · exact (hw j hj).1
theorem wfm_a {σ : mS} {k : Nat} {i v : Int} (hw : wfm σ) (hv : (mtab.getD k (0, 0, 0)).2.1 ≤ v ∧ v ≤ (mtab.getD k (0, 0, 0)).2.2) : wfm (mar σ k i v) := by
  intro j hj
  refine ⟨(hw j hj).1, ?_⟩
  simp only [mar, upF]
  split
  · rename_i e
    subst e
    refine ⟨by rw [List.length_set]; exact (hw j hj).2.1, fun x hx => ?_⟩
    rcases List.mem_or_eq_of_mem_set hx with h | h
    · exact (hw j hj).2.2 x h
    · rw [h]; exact hv
  · exact (hw j hj).2
theorem jMod.rd {h : jH} {σ : mS} (hc : jMod h σ) (hw : wfm σ) {k : Nat} (hk : marr k = true) {i : Int} (h0 : 0 ≤ i) (h1 : i.toNat < (mtab.getD k (0, 0, 0)).1) : ∃ vs, h (apos k) = (akd k, vs) ∧ vs[i.toNat]? = some (vi (mat (σ.2 k) i)) := by
  refine ⟨_, hc.2 k hk, ?_⟩
  have hl := (hw k (marr_lt hk)).2.1
  have hlt : i.toNat < (σ.2 k).length := by rw [hl]; exact h1
  rw [List.getElem?_map, List.getElem?_eq_getElem hlt]
  simp [mat, hlt]
theorem jMod.st {h : jH} {σ : mS} (hc : jMod h σ) (hw : wfm σ) {k : Nat} (hk : marr k = true) {i v : Int} (h0 : 0 ≤ i) (h1 : i.toNat < (mtab.getD k (0, 0, 0)).1) : ∃ vs, h (apos k) = (akd k, vs) ∧ i.toNat < vs.length ∧ jMod (jup h (apos k) (akd k, vs.set i.toNat (vi v))) (mar σ k i v) := by
  have hk53 := marr_lt hk
  have hl := (hw k hk53).2.1
  have ho := apos_own k hk53 hk
  refine ⟨_, hc.2 k hk, by rw [List.length_map, hl]; exact h1, ?_, fun a ha => ?_⟩
  · rw [jup_ne (by omega)]; exact hc.1
  · by_cases e : a = k
    · subst e
      rw [jup_same]
      simp [mar, upF, List.map_set]
    · have ne : apos a ≠ apos k := fun q => e (apos_inj a (marr_lt ha) k hk53 ha q)
      rw [jup_ne ne, hc.2 a ha]
      simp [mar, upF, e]
theorem mown_arr {k : Nat} (hk : marr k = true) : mown (apos k) := by
  have := apos_own k (marr_lt hk) hk
  exact ⟨by omega, by omega⟩
theorem mown_0 : mown 116 := ⟨by decide, by decide⟩
theorem jfit_zz {b : Int} (h : 0 ≤ b ∧ b ≤ 1) : jfit .boolean (vi b) := by
  have : b = 0 ∨ b = 1 := by omega
  rcases this with e | e <;> subst e
  · exact jfit_z0
  · exact jfit_z1
theorem z01 {b : Int} (h : 0 ≤ b ∧ b ≤ 1) : Int32.ofInt b = 0 ∨ Int32.ofInt b = 1 := by
  have : b = 0 ∨ b = 1 := by omega
  rcases this with e | e <;> subst e
  · exact Or.inl rfl
  · exact Or.inr rfl
theorem bz_dec {b : Int} (h : 0 ≤ b ∧ b ≤ 1) : bz (decide (b = 1)) = b := by
  have : b = 0 ∨ b = 1 := by omega
  rcases this with e | e <;> subst e <;> rfl
section CM
variable {S : Type} {inv : jH → S → Prop} {own : Nat → Prop} {l : Launch} {G : jG} {Y : jY} {d bc bs pc : Nat} {ls : List (Option Value)} {st : List Value} {σ : S} {P : jO → S → Prop}
theorem C_zretB {b : Int} (hd : decode Y.1.2.1 pc = .ok (.ireturn, 1)) (hr : Y.1.2.2.2 = some .boolean) (hv : 0 ≤ b ∧ b ≤ 1) (hP : P (.inl (some (vi (bz (decide (b = 1)))))) σ) : CJ inv own l G Y d bc bs pc ls [vi b] σ P :=
  C_zret hd hr (z01 hv) (by rw [bz_dec hv] at hP; exact hP)
end CM
theorem jMod.pf0 {h : jH} {σ : mS} {v : Int} (hc : jMod h σ) : ∃ fs, h 116 = (7, fs) ∧ 0 < fs.length ∧ jMod (jup h 116 (7, fs.set 0 (vi v))) (mfl σ 0 v) :=
  ⟨_, hc.1, Nat.le_of_ble_eq_true rfl, by rw [jup_same]; rfl, fun a ha => by rw [jup_ne (by have := apos_own a (marr_lt ha) ha; omega)]; exact hc.2 a ha⟩
theorem wfm.f0 {σ : mS} (hw : wfm σ) : 0 ≤ σ.1 0 ∧ σ.1 0 ≤ 2 := (hw 0 (by decide)).1
theorem jMod.pf1 {h : jH} {σ : mS} {v : Int} (hc : jMod h σ) : ∃ fs, h 116 = (7, fs) ∧ 1 < fs.length ∧ jMod (jup h 116 (7, fs.set 1 (vi v))) (mfl σ 1 v) :=
  ⟨_, hc.1, Nat.le_of_ble_eq_true rfl, by rw [jup_same]; rfl, fun a ha => by rw [jup_ne (by have := apos_own a (marr_lt ha) ha; omega)]; exact hc.2 a ha⟩
theorem wfm.f1 {σ : mS} (hw : wfm σ) : 0 ≤ σ.1 1 ∧ σ.1 1 ≤ 400 := (hw 1 (by decide)).1
theorem wfm.a2 {σ : mS} (hw : wfm σ) (i : Int) : 0 ≤ mat (σ.2 2) i ∧ mat (σ.2 2) i ≤ 126 := hw.rat (k := 2) (by decide) i
theorem jMod.rd2 {h : jH} {σ : mS} (hc : jMod h σ) (hw : wfm σ) {i : Int} (h0 : 0 ≤ i) (h1 : i < 400) : ∃ vs, h 117 = (10, vs) ∧ vs[i.toNat]? = some (vi (mat (σ.2 2) i)) := hc.rd hw (k := 2) (by decide) h0 (show i.toNat < 400 by omega)
theorem jMod.st2 {h : jH} {σ : mS} (hc : jMod h σ) (hw : wfm σ) {i v : Int} (h0 : 0 ≤ i) (h1 : i < 400) : ∃ vs, h 117 = (10, vs) ∧ i.toNat < vs.length ∧ jMod (jup h 117 (10, vs.set i.toNat (vi v))) (mar σ 2 i v) := hc.st hw (k := 2) (by decide) h0 (show i.toNat < 400 by omega)
theorem mo2 : mown 117 := mown_arr (k := 2) (by decide)
theorem wfm.a3 {σ : mS} (hw : wfm σ) (i : Int) : 0 ≤ mat (σ.2 3) i ∧ mat (σ.2 3) i ≤ 24 := hw.rat (k := 3) (by decide) i
theorem jMod.rd3 {h : jH} {σ : mS} (hc : jMod h σ) (hw : wfm σ) {i : Int} (h0 : 0 ≤ i) (h1 : i < 4) : ∃ vs, h 118 = (10, vs) ∧ vs[i.toNat]? = some (vi (mat (σ.2 3) i)) := hc.rd hw (k := 3) (by decide) h0 (show i.toNat < 4 by omega)
theorem jMod.st3 {h : jH} {σ : mS} (hc : jMod h σ) (hw : wfm σ) {i v : Int} (h0 : 0 ≤ i) (h1 : i < 4) : ∃ vs, h 118 = (10, vs) ∧ i.toNat < vs.length ∧ jMod (jup h 118 (10, vs.set i.toNat (vi v))) (mar σ 3 i v) := hc.st hw (k := 3) (by decide) h0 (show i.toNat < 4 by omega)
theorem mo3 : mown 118 := mown_arr (k := 3) (by decide)
theorem wfm.a4 {σ : mS} (hw : wfm σ) (i : Int) : 0 ≤ mat (σ.2 4) i ∧ mat (σ.2 4) i ≤ 16777215 := hw.rat (k := 4) (by decide) i
theorem jMod.rd4 {h : jH} {σ : mS} (hc : jMod h σ) (hw : wfm σ) {i : Int} (h0 : 0 ≤ i) (h1 : i < 96) : ∃ vs, h 119 = (10, vs) ∧ vs[i.toNat]? = some (vi (mat (σ.2 4) i)) := hc.rd hw (k := 4) (by decide) h0 (show i.toNat < 96 by omega)
theorem jMod.st4 {h : jH} {σ : mS} (hc : jMod h σ) (hw : wfm σ) {i v : Int} (h0 : 0 ≤ i) (h1 : i < 96) : ∃ vs, h 119 = (10, vs) ∧ i.toNat < vs.length ∧ jMod (jup h 119 (10, vs.set i.toNat (vi v))) (mar σ 4 i v) := hc.st hw (k := 4) (by decide) h0 (show i.toNat < 96 by omega)
theorem mo4 : mown 119 := mown_arr (k := 4) (by decide)
theorem wfm.a5 {σ : mS} (hw : wfm σ) (i : Int) : 0 ≤ mat (σ.2 5) i ∧ mat (σ.2 5) i ≤ 1 := hw.rat (k := 5) (by decide) i
theorem jMod.rd5 {h : jH} {σ : mS} (hc : jMod h σ) (hw : wfm σ) {i : Int} (h0 : 0 ≤ i) (h1 : i < 96) : ∃ vs, h 120 = (12, vs) ∧ vs[i.toNat]? = some (vi (mat (σ.2 5) i)) := hc.rd hw (k := 5) (by decide) h0 (show i.toNat < 96 by omega)
theorem jMod.st5 {h : jH} {σ : mS} (hc : jMod h σ) (hw : wfm σ) {i v : Int} (h0 : 0 ≤ i) (h1 : i < 96) : ∃ vs, h 120 = (12, vs) ∧ i.toNat < vs.length ∧ jMod (jup h 120 (12, vs.set i.toNat (vi v))) (mar σ 5 i v) := hc.st hw (k := 5) (by decide) h0 (show i.toNat < 96 by omega)
theorem mo5 : mown 120 := mown_arr (k := 5) (by decide)
theorem wfm.a6 {σ : mS} (hw : wfm σ) (i : Int) : 0 ≤ mat (σ.2 6) i ∧ mat (σ.2 6) i ≤ 99 := hw.rat (k := 6) (by decide) i
theorem jMod.rd6 {h : jH} {σ : mS} (hc : jMod h σ) (hw : wfm σ) {i : Int} (h0 : 0 ≤ i) (h1 : i < 96) : ∃ vs, h 121 = (10, vs) ∧ vs[i.toNat]? = some (vi (mat (σ.2 6) i)) := hc.rd hw (k := 6) (by decide) h0 (show i.toNat < 96 by omega)
theorem jMod.st6 {h : jH} {σ : mS} (hc : jMod h σ) (hw : wfm σ) {i v : Int} (h0 : 0 ≤ i) (h1 : i < 96) : ∃ vs, h 121 = (10, vs) ∧ i.toNat < vs.length ∧ jMod (jup h 121 (10, vs.set i.toNat (vi v))) (mar σ 6 i v) := hc.st hw (k := 6) (by decide) h0 (show i.toNat < 96 by omega)
theorem mo6 : mown 121 := mown_arr (k := 6) (by decide)
theorem wfm.a7 {σ : mS} (hw : wfm σ) (i : Int) : -1 ≤ mat (σ.2 7) i ∧ mat (σ.2 7) i ≤ 23 := hw.rat (k := 7) (by decide) i
theorem jMod.rd7 {h : jH} {σ : mS} (hc : jMod h σ) (hw : wfm σ) {i : Int} (h0 : 0 ≤ i) (h1 : i < 96) : ∃ vs, h 122 = (10, vs) ∧ vs[i.toNat]? = some (vi (mat (σ.2 7) i)) := hc.rd hw (k := 7) (by decide) h0 (show i.toNat < 96 by omega)
theorem jMod.st7 {h : jH} {σ : mS} (hc : jMod h σ) (hw : wfm σ) {i v : Int} (h0 : 0 ≤ i) (h1 : i < 96) : ∃ vs, h 122 = (10, vs) ∧ i.toNat < vs.length ∧ jMod (jup h 122 (10, vs.set i.toNat (vi v))) (mar σ 7 i v) := hc.st hw (k := 7) (by decide) h0 (show i.toNat < 96 by omega)
theorem mo7 : mown 122 := mown_arr (k := 7) (by decide)
theorem wfm.a8 {σ : mS} (hw : wfm σ) (i : Int) : -1 ≤ mat (σ.2 8) i ∧ mat (σ.2 8) i ≤ 23 := hw.rat (k := 8) (by decide) i
theorem jMod.rd8 {h : jH} {σ : mS} (hc : jMod h σ) (hw : wfm σ) {i : Int} (h0 : 0 ≤ i) (h1 : i < 4) : ∃ vs, h 123 = (10, vs) ∧ vs[i.toNat]? = some (vi (mat (σ.2 8) i)) := hc.rd hw (k := 8) (by decide) h0 (show i.toNat < 4 by omega)
theorem jMod.st8 {h : jH} {σ : mS} (hc : jMod h σ) (hw : wfm σ) {i v : Int} (h0 : 0 ≤ i) (h1 : i < 4) : ∃ vs, h 123 = (10, vs) ∧ i.toNat < vs.length ∧ jMod (jup h 123 (10, vs.set i.toNat (vi v))) (mar σ 8 i v) := hc.st hw (k := 8) (by decide) h0 (show i.toNat < 4 by omega)
theorem mo8 : mown 123 := mown_arr (k := 8) (by decide)
theorem jMod.pf9 {h : jH} {σ : mS} {v : Int} (hc : jMod h σ) : ∃ fs, h 116 = (7, fs) ∧ 9 < fs.length ∧ jMod (jup h 116 (7, fs.set 9 (vi v))) (mfl σ 9 v) :=
  ⟨_, hc.1, Nat.le_of_ble_eq_true rfl, by rw [jup_same]; rfl, fun a ha => by rw [jup_ne (by have := apos_own a (marr_lt ha) ha; omega)]; exact hc.2 a ha⟩
theorem wfm.f9 {σ : mS} (hw : wfm σ) : 0 ≤ σ.1 9 ∧ σ.1 9 ≤ 126 := (hw 9 (by decide)).1
theorem jMod.pf10 {h : jH} {σ : mS} {v : Int} (hc : jMod h σ) : ∃ fs, h 116 = (7, fs) ∧ 10 < fs.length ∧ jMod (jup h 116 (7, fs.set 10 (vi v))) (mfl σ 10 v) :=
  ⟨_, hc.1, Nat.le_of_ble_eq_true rfl, by rw [jup_same]; rfl, fun a ha => by rw [jup_ne (by have := apos_own a (marr_lt ha) ha; omega)]; exact hc.2 a ha⟩
theorem wfm.f10 {σ : mS} (hw : wfm σ) : 0 ≤ σ.1 10 ∧ σ.1 10 ≤ 126 := (hw 10 (by decide)).1
theorem jMod.pf11 {h : jH} {σ : mS} {v : Int} (hc : jMod h σ) : ∃ fs, h 116 = (7, fs) ∧ 11 < fs.length ∧ jMod (jup h 116 (7, fs.set 11 (vi v))) (mfl σ 11 v) :=
  ⟨_, hc.1, Nat.le_of_ble_eq_true rfl, by rw [jup_same]; rfl, fun a ha => by rw [jup_ne (by have := apos_own a (marr_lt ha) ha; omega)]; exact hc.2 a ha⟩
theorem wfm.f11 {σ : mS} (hw : wfm σ) : 0 ≤ σ.1 11 ∧ σ.1 11 ≤ 126 := (hw 11 (by decide)).1
theorem jMod.pf12 {h : jH} {σ : mS} {v : Int} (hc : jMod h σ) : ∃ fs, h 116 = (7, fs) ∧ 12 < fs.length ∧ jMod (jup h 116 (7, fs.set 12 (vi v))) (mfl σ 12 v) :=
  ⟨_, hc.1, Nat.le_of_ble_eq_true rfl, by rw [jup_same]; rfl, fun a ha => by rw [jup_ne (by have := apos_own a (marr_lt ha) ha; omega)]; exact hc.2 a ha⟩
theorem wfm.f12 {σ : mS} (hw : wfm σ) : 0 ≤ σ.1 12 ∧ σ.1 12 ≤ 126 := (hw 12 (by decide)).1
theorem jMod.pf13 {h : jH} {σ : mS} {v : Int} (hc : jMod h σ) : ∃ fs, h 116 = (7, fs) ∧ 13 < fs.length ∧ jMod (jup h 116 (7, fs.set 13 (vi v))) (mfl σ 13 v) :=
  ⟨_, hc.1, Nat.le_of_ble_eq_true rfl, by rw [jup_same]; rfl, fun a ha => by rw [jup_ne (by have := apos_own a (marr_lt ha) ha; omega)]; exact hc.2 a ha⟩
theorem wfm.f13 {σ : mS} (hw : wfm σ) : -1 ≤ σ.1 13 ∧ σ.1 13 ≤ 400 := (hw 13 (by decide)).1
theorem jMod.pf14 {h : jH} {σ : mS} {v : Int} (hc : jMod h σ) : ∃ fs, h 116 = (7, fs) ∧ 14 < fs.length ∧ jMod (jup h 116 (7, fs.set 14 (vi v))) (mfl σ 14 v) :=
  ⟨_, hc.1, Nat.le_of_ble_eq_true rfl, by rw [jup_same]; rfl, fun a ha => by rw [jup_ne (by have := apos_own a (marr_lt ha) ha; omega)]; exact hc.2 a ha⟩
theorem wfm.f14 {σ : mS} (hw : wfm σ) : 0 ≤ σ.1 14 ∧ σ.1 14 ≤ 40 := (hw 14 (by decide)).1
theorem wfm.a15 {σ : mS} (hw : wfm σ) (i : Int) : 0 ≤ mat (σ.2 15) i ∧ mat (σ.2 15) i ≤ 16777215 := hw.rat (k := 15) (by decide) i
theorem jMod.rd15 {h : jH} {σ : mS} (hc : jMod h σ) (hw : wfm σ) {i : Int} (h0 : 0 ≤ i) (h1 : i < 41) : ∃ vs, h 124 = (10, vs) ∧ vs[i.toNat]? = some (vi (mat (σ.2 15) i)) := hc.rd hw (k := 15) (by decide) h0 (show i.toNat < 41 by omega)
theorem jMod.st15 {h : jH} {σ : mS} (hc : jMod h σ) (hw : wfm σ) {i v : Int} (h0 : 0 ≤ i) (h1 : i < 41) : ∃ vs, h 124 = (10, vs) ∧ i.toNat < vs.length ∧ jMod (jup h 124 (10, vs.set i.toNat (vi v))) (mar σ 15 i v) := hc.st hw (k := 15) (by decide) h0 (show i.toNat < 41 by omega)
theorem mo15 : mown 124 := mown_arr (k := 15) (by decide)
theorem wfm.a16 {σ : mS} (hw : wfm σ) (i : Int) : 0 ≤ mat (σ.2 16) i ∧ mat (σ.2 16) i ≤ 121 := hw.rat (k := 16) (by decide) i
theorem jMod.rd16 {h : jH} {σ : mS} (hc : jMod h σ) (hw : wfm σ) {i : Int} (h0 : 0 ≤ i) (h1 : i < 42) : ∃ vs, h 125 = (10, vs) ∧ vs[i.toNat]? = some (vi (mat (σ.2 16) i)) := hc.rd hw (k := 16) (by decide) h0 (show i.toNat < 42 by omega)
theorem jMod.st16 {h : jH} {σ : mS} (hc : jMod h σ) (hw : wfm σ) {i v : Int} (h0 : 0 ≤ i) (h1 : i < 42) : ∃ vs, h 125 = (10, vs) ∧ i.toNat < vs.length ∧ jMod (jup h 125 (10, vs.set i.toNat (vi v))) (mar σ 16 i v) := hc.st hw (k := 16) (by decide) h0 (show i.toNat < 42 by omega)
theorem mo16 : mown 125 := mown_arr (k := 16) (by decide)
theorem jMod.pf17 {h : jH} {σ : mS} {v : Int} (hc : jMod h σ) : ∃ fs, h 116 = (7, fs) ∧ 17 < fs.length ∧ jMod (jup h 116 (7, fs.set 17 (vi v))) (mfl σ 17 v) :=
  ⟨_, hc.1, Nat.le_of_ble_eq_true rfl, by rw [jup_same]; rfl, fun a ha => by rw [jup_ne (by have := apos_own a (marr_lt ha) ha; omega)]; exact hc.2 a ha⟩
theorem wfm.f17 {σ : mS} (hw : wfm σ) : 0 ≤ σ.1 17 ∧ σ.1 17 ≤ 121 := (hw 17 (by decide)).1
theorem wfm.a18 {σ : mS} (hw : wfm σ) (i : Int) : 0 ≤ mat (σ.2 18) i ∧ mat (σ.2 18) i ≤ 121 := hw.rat (k := 18) (by decide) i
theorem jMod.rd18 {h : jH} {σ : mS} (hc : jMod h σ) (hw : wfm σ) {i : Int} (h0 : 0 ≤ i) (h1 : i < 124) : ∃ vs, h 126 = (10, vs) ∧ vs[i.toNat]? = some (vi (mat (σ.2 18) i)) := hc.rd hw (k := 18) (by decide) h0 (show i.toNat < 124 by omega)
theorem jMod.st18 {h : jH} {σ : mS} (hc : jMod h σ) (hw : wfm σ) {i v : Int} (h0 : 0 ≤ i) (h1 : i < 124) : ∃ vs, h 126 = (10, vs) ∧ i.toNat < vs.length ∧ jMod (jup h 126 (10, vs.set i.toNat (vi v))) (mar σ 18 i v) := hc.st hw (k := 18) (by decide) h0 (show i.toNat < 124 by omega)
theorem mo18 : mown 126 := mown_arr (k := 18) (by decide)
theorem jMod.pf19 {h : jH} {σ : mS} {v : Int} (hc : jMod h σ) : ∃ fs, h 116 = (7, fs) ∧ 19 < fs.length ∧ jMod (jup h 116 (7, fs.set 19 (vi v))) (mfl σ 19 v) :=
  ⟨_, hc.1, Nat.le_of_ble_eq_true rfl, by rw [jup_same]; rfl, fun a ha => by rw [jup_ne (by have := apos_own a (marr_lt ha) ha; omega)]; exact hc.2 a ha⟩
theorem wfm.f19 {σ : mS} (hw : wfm σ) : 0 ≤ σ.1 19 ∧ σ.1 19 ≤ 121 := (hw 19 (by decide)).1
theorem wfm.a20 {σ : mS} (hw : wfm σ) (i : Int) : 0 ≤ mat (σ.2 20) i ∧ mat (σ.2 20) i ≤ 400 := hw.rat (k := 20) (by decide) i
theorem jMod.rd20 {h : jH} {σ : mS} (hc : jMod h σ) (hw : wfm σ) {i : Int} (h0 : 0 ≤ i) (h1 : i < 124) : ∃ vs, h 127 = (10, vs) ∧ vs[i.toNat]? = some (vi (mat (σ.2 20) i)) := hc.rd hw (k := 20) (by decide) h0 (show i.toNat < 124 by omega)
theorem jMod.st20 {h : jH} {σ : mS} (hc : jMod h σ) (hw : wfm σ) {i v : Int} (h0 : 0 ≤ i) (h1 : i < 124) : ∃ vs, h 127 = (10, vs) ∧ i.toNat < vs.length ∧ jMod (jup h 127 (10, vs.set i.toNat (vi v))) (mar σ 20 i v) := hc.st hw (k := 20) (by decide) h0 (show i.toNat < 124 by omega)
theorem mo20 : mown 127 := mown_arr (k := 20) (by decide)
theorem jMod.pf21 {h : jH} {σ : mS} {v : Int} (hc : jMod h σ) : ∃ fs, h 116 = (7, fs) ∧ 21 < fs.length ∧ jMod (jup h 116 (7, fs.set 21 (vi v))) (mfl σ 21 v) :=
  ⟨_, hc.1, Nat.le_of_ble_eq_true rfl, by rw [jup_same]; rfl, fun a ha => by rw [jup_ne (by have := apos_own a (marr_lt ha) ha; omega)]; exact hc.2 a ha⟩
theorem wfm.f21 {σ : mS} (hw : wfm σ) : 0 ≤ σ.1 21 ∧ σ.1 21 ≤ 400 := (hw 21 (by decide)).1
theorem wfm.a22 {σ : mS} (hw : wfm σ) (i : Int) : 0 ≤ mat (σ.2 22) i ∧ mat (σ.2 22) i ≤ 126 := hw.rat (k := 22) (by decide) i
theorem jMod.rd22 {h : jH} {σ : mS} (hc : jMod h σ) (hw : wfm σ) {i : Int} (h0 : 0 ≤ i) (h1 : i < 400) : ∃ vs, h 128 = (10, vs) ∧ vs[i.toNat]? = some (vi (mat (σ.2 22) i)) := hc.rd hw (k := 22) (by decide) h0 (show i.toNat < 400 by omega)
theorem jMod.st22 {h : jH} {σ : mS} (hc : jMod h σ) (hw : wfm σ) {i v : Int} (h0 : 0 ≤ i) (h1 : i < 400) : ∃ vs, h 128 = (10, vs) ∧ i.toNat < vs.length ∧ jMod (jup h 128 (10, vs.set i.toNat (vi v))) (mar σ 22 i v) := hc.st hw (k := 22) (by decide) h0 (show i.toNat < 400 by omega)
theorem mo22 : mown 128 := mown_arr (k := 22) (by decide)
theorem jMod.pf23 {h : jH} {σ : mS} {v : Int} (hc : jMod h σ) : ∃ fs, h 116 = (7, fs) ∧ 23 < fs.length ∧ jMod (jup h 116 (7, fs.set 23 (vi v))) (mfl σ 23 v) :=
  ⟨_, hc.1, Nat.le_of_ble_eq_true rfl, by rw [jup_same]; rfl, fun a ha => by rw [jup_ne (by have := apos_own a (marr_lt ha) ha; omega)]; exact hc.2 a ha⟩
theorem wfm.f23 {σ : mS} (hw : wfm σ) : 0 ≤ σ.1 23 ∧ σ.1 23 ≤ 1 := (hw 23 (by decide)).1
theorem jMod.pf24 {h : jH} {σ : mS} {v : Int} (hc : jMod h σ) : ∃ fs, h 116 = (7, fs) ∧ 24 < fs.length ∧ jMod (jup h 116 (7, fs.set 24 (vi v))) (mfl σ 24 v) :=
  ⟨_, hc.1, Nat.le_of_ble_eq_true rfl, by rw [jup_same]; rfl, fun a ha => by rw [jup_ne (by have := apos_own a (marr_lt ha) ha; omega)]; exact hc.2 a ha⟩
theorem wfm.f24 {σ : mS} (hw : wfm σ) : 0 ≤ σ.1 24 ∧ σ.1 24 ≤ 40 := (hw 24 (by decide)).1
theorem wfm.a25 {σ : mS} (hw : wfm σ) (i : Int) : 0 ≤ mat (σ.2 25) i ∧ mat (σ.2 25) i ≤ 16777215 := hw.rat (k := 25) (by decide) i
theorem jMod.rd25 {h : jH} {σ : mS} (hc : jMod h σ) (hw : wfm σ) {i : Int} (h0 : 0 ≤ i) (h1 : i < 41) : ∃ vs, h 129 = (10, vs) ∧ vs[i.toNat]? = some (vi (mat (σ.2 25) i)) := hc.rd hw (k := 25) (by decide) h0 (show i.toNat < 41 by omega)
theorem jMod.st25 {h : jH} {σ : mS} (hc : jMod h σ) (hw : wfm σ) {i v : Int} (h0 : 0 ≤ i) (h1 : i < 41) : ∃ vs, h 129 = (10, vs) ∧ i.toNat < vs.length ∧ jMod (jup h 129 (10, vs.set i.toNat (vi v))) (mar σ 25 i v) := hc.st hw (k := 25) (by decide) h0 (show i.toNat < 41 by omega)
theorem mo25 : mown 129 := mown_arr (k := 25) (by decide)
theorem wfm.a26 {σ : mS} (hw : wfm σ) (i : Int) : 0 ≤ mat (σ.2 26) i ∧ mat (σ.2 26) i ≤ 121 := hw.rat (k := 26) (by decide) i
theorem jMod.rd26 {h : jH} {σ : mS} (hc : jMod h σ) (hw : wfm σ) {i : Int} (h0 : 0 ≤ i) (h1 : i < 42) : ∃ vs, h 130 = (10, vs) ∧ vs[i.toNat]? = some (vi (mat (σ.2 26) i)) := hc.rd hw (k := 26) (by decide) h0 (show i.toNat < 42 by omega)
theorem jMod.st26 {h : jH} {σ : mS} (hc : jMod h σ) (hw : wfm σ) {i v : Int} (h0 : 0 ≤ i) (h1 : i < 42) : ∃ vs, h 130 = (10, vs) ∧ i.toNat < vs.length ∧ jMod (jup h 130 (10, vs.set i.toNat (vi v))) (mar σ 26 i v) := hc.st hw (k := 26) (by decide) h0 (show i.toNat < 42 by omega)
theorem mo26 : mown 130 := mown_arr (k := 26) (by decide)
theorem jMod.pf27 {h : jH} {σ : mS} {v : Int} (hc : jMod h σ) : ∃ fs, h 116 = (7, fs) ∧ 27 < fs.length ∧ jMod (jup h 116 (7, fs.set 27 (vi v))) (mfl σ 27 v) :=
  ⟨_, hc.1, Nat.le_of_ble_eq_true rfl, by rw [jup_same]; rfl, fun a ha => by rw [jup_ne (by have := apos_own a (marr_lt ha) ha; omega)]; exact hc.2 a ha⟩
theorem wfm.f27 {σ : mS} (hw : wfm σ) : 0 ≤ σ.1 27 ∧ σ.1 27 ≤ 121 := (hw 27 (by decide)).1
theorem wfm.a28 {σ : mS} (hw : wfm σ) (i : Int) : 0 ≤ mat (σ.2 28) i ∧ mat (σ.2 28) i ≤ 121 := hw.rat (k := 28) (by decide) i
theorem jMod.rd28 {h : jH} {σ : mS} (hc : jMod h σ) (hw : wfm σ) {i : Int} (h0 : 0 ≤ i) (h1 : i < 124) : ∃ vs, h 131 = (10, vs) ∧ vs[i.toNat]? = some (vi (mat (σ.2 28) i)) := hc.rd hw (k := 28) (by decide) h0 (show i.toNat < 124 by omega)
theorem jMod.st28 {h : jH} {σ : mS} (hc : jMod h σ) (hw : wfm σ) {i v : Int} (h0 : 0 ≤ i) (h1 : i < 124) : ∃ vs, h 131 = (10, vs) ∧ i.toNat < vs.length ∧ jMod (jup h 131 (10, vs.set i.toNat (vi v))) (mar σ 28 i v) := hc.st hw (k := 28) (by decide) h0 (show i.toNat < 124 by omega)
theorem mo28 : mown 131 := mown_arr (k := 28) (by decide)
theorem jMod.pf29 {h : jH} {σ : mS} {v : Int} (hc : jMod h σ) : ∃ fs, h 116 = (7, fs) ∧ 29 < fs.length ∧ jMod (jup h 116 (7, fs.set 29 (vi v))) (mfl σ 29 v) :=
  ⟨_, hc.1, Nat.le_of_ble_eq_true rfl, by rw [jup_same]; rfl, fun a ha => by rw [jup_ne (by have := apos_own a (marr_lt ha) ha; omega)]; exact hc.2 a ha⟩
theorem wfm.f29 {σ : mS} (hw : wfm σ) : 0 ≤ σ.1 29 ∧ σ.1 29 ≤ 121 := (hw 29 (by decide)).1
theorem wfm.a30 {σ : mS} (hw : wfm σ) (i : Int) : 0 ≤ mat (σ.2 30) i ∧ mat (σ.2 30) i ≤ 400 := hw.rat (k := 30) (by decide) i
theorem jMod.rd30 {h : jH} {σ : mS} (hc : jMod h σ) (hw : wfm σ) {i : Int} (h0 : 0 ≤ i) (h1 : i < 124) : ∃ vs, h 132 = (10, vs) ∧ vs[i.toNat]? = some (vi (mat (σ.2 30) i)) := hc.rd hw (k := 30) (by decide) h0 (show i.toNat < 124 by omega)
theorem jMod.st30 {h : jH} {σ : mS} (hc : jMod h σ) (hw : wfm σ) {i v : Int} (h0 : 0 ≤ i) (h1 : i < 124) : ∃ vs, h 132 = (10, vs) ∧ i.toNat < vs.length ∧ jMod (jup h 132 (10, vs.set i.toNat (vi v))) (mar σ 30 i v) := hc.st hw (k := 30) (by decide) h0 (show i.toNat < 124 by omega)
theorem mo30 : mown 132 := mown_arr (k := 30) (by decide)
theorem wfm.a31 {σ : mS} (hw : wfm σ) (i : Int) : 0 ≤ mat (σ.2 31) i ∧ mat (σ.2 31) i ≤ 126 := hw.rat (k := 31) (by decide) i
theorem jMod.rd31 {h : jH} {σ : mS} (hc : jMod h σ) (hw : wfm σ) {i : Int} (h0 : 0 ≤ i) (h1 : i < 400) : ∃ vs, h 133 = (10, vs) ∧ vs[i.toNat]? = some (vi (mat (σ.2 31) i)) := hc.rd hw (k := 31) (by decide) h0 (show i.toNat < 400 by omega)
theorem jMod.st31 {h : jH} {σ : mS} (hc : jMod h σ) (hw : wfm σ) {i v : Int} (h0 : 0 ≤ i) (h1 : i < 400) : ∃ vs, h 133 = (10, vs) ∧ i.toNat < vs.length ∧ jMod (jup h 133 (10, vs.set i.toNat (vi v))) (mar σ 31 i v) := hc.st hw (k := 31) (by decide) h0 (show i.toNat < 400 by omega)
theorem mo31 : mown 133 := mown_arr (k := 31) (by decide)
theorem jMod.pf32 {h : jH} {σ : mS} {v : Int} (hc : jMod h σ) : ∃ fs, h 116 = (7, fs) ∧ 32 < fs.length ∧ jMod (jup h 116 (7, fs.set 32 (vi v))) (mfl σ 32 v) :=
  ⟨_, hc.1, Nat.le_of_ble_eq_true rfl, by rw [jup_same]; rfl, fun a ha => by rw [jup_ne (by have := apos_own a (marr_lt ha) ha; omega)]; exact hc.2 a ha⟩
theorem wfm.f32 {σ : mS} (hw : wfm σ) : 0 ≤ σ.1 32 ∧ σ.1 32 ≤ 3 := (hw 32 (by decide)).1
theorem jMod.pf33 {h : jH} {σ : mS} {v : Int} (hc : jMod h σ) : ∃ fs, h 116 = (7, fs) ∧ 33 < fs.length ∧ jMod (jup h 116 (7, fs.set 33 (vi v))) (mfl σ 33 v) :=
  ⟨_, hc.1, Nat.le_of_ble_eq_true rfl, by rw [jup_same]; rfl, fun a ha => by rw [jup_ne (by have := apos_own a (marr_lt ha) ha; omega)]; exact hc.2 a ha⟩
theorem wfm.f33 {σ : mS} (hw : wfm σ) : 0 ≤ σ.1 33 ∧ σ.1 33 ≤ 20 := (hw 33 (by decide)).1
theorem wfm.a34 {σ : mS} (hw : wfm σ) (i : Int) : 0 ≤ mat (σ.2 34) i ∧ mat (σ.2 34) i ≤ 40 := hw.rat (k := 34) (by decide) i
theorem jMod.rd34 {h : jH} {σ : mS} (hc : jMod h σ) (hw : wfm σ) {i : Int} (h0 : 0 ≤ i) (h1 : i < 20) : ∃ vs, h 134 = (10, vs) ∧ vs[i.toNat]? = some (vi (mat (σ.2 34) i)) := hc.rd hw (k := 34) (by decide) h0 (show i.toNat < 20 by omega)
theorem jMod.st34 {h : jH} {σ : mS} (hc : jMod h σ) (hw : wfm σ) {i v : Int} (h0 : 0 ≤ i) (h1 : i < 20) : ∃ vs, h 134 = (10, vs) ∧ i.toNat < vs.length ∧ jMod (jup h 134 (10, vs.set i.toNat (vi v))) (mar σ 34 i v) := hc.st hw (k := 34) (by decide) h0 (show i.toNat < 20 by omega)
theorem mo34 : mown 134 := mown_arr (k := 34) (by decide)
theorem wfm.a35 {σ : mS} (hw : wfm σ) (i : Int) : 0 ≤ mat (σ.2 35) i ∧ mat (σ.2 35) i ≤ 40 := hw.rat (k := 35) (by decide) i
theorem jMod.rd35 {h : jH} {σ : mS} (hc : jMod h σ) (hw : wfm σ) {i : Int} (h0 : 0 ≤ i) (h1 : i < 20) : ∃ vs, h 135 = (10, vs) ∧ vs[i.toNat]? = some (vi (mat (σ.2 35) i)) := hc.rd hw (k := 35) (by decide) h0 (show i.toNat < 20 by omega)
theorem jMod.st35 {h : jH} {σ : mS} (hc : jMod h σ) (hw : wfm σ) {i v : Int} (h0 : 0 ≤ i) (h1 : i < 20) : ∃ vs, h 135 = (10, vs) ∧ i.toNat < vs.length ∧ jMod (jup h 135 (10, vs.set i.toNat (vi v))) (mar σ 35 i v) := hc.st hw (k := 35) (by decide) h0 (show i.toNat < 20 by omega)
theorem mo35 : mown 135 := mown_arr (k := 35) (by decide)
theorem wfm.a36 {σ : mS} (hw : wfm σ) (i : Int) : -1 ≤ mat (σ.2 36) i ∧ mat (σ.2 36) i ≤ 19 := hw.rat (k := 36) (by decide) i
theorem jMod.rd36 {h : jH} {σ : mS} (hc : jMod h σ) (hw : wfm σ) {i : Int} (h0 : 0 ≤ i) (h1 : i < 20) : ∃ vs, h 136 = (10, vs) ∧ vs[i.toNat]? = some (vi (mat (σ.2 36) i)) := hc.rd hw (k := 36) (by decide) h0 (show i.toNat < 20 by omega)
theorem jMod.st36 {h : jH} {σ : mS} (hc : jMod h σ) (hw : wfm σ) {i v : Int} (h0 : 0 ≤ i) (h1 : i < 20) : ∃ vs, h 136 = (10, vs) ∧ i.toNat < vs.length ∧ jMod (jup h 136 (10, vs.set i.toNat (vi v))) (mar σ 36 i v) := hc.st hw (k := 36) (by decide) h0 (show i.toNat < 20 by omega)
theorem mo36 : mown 136 := mown_arr (k := 36) (by decide)
theorem wfm.a37 {σ : mS} (hw : wfm σ) (i : Int) : 0 ≤ mat (σ.2 37) i ∧ mat (σ.2 37) i ≤ 7 := hw.rat (k := 37) (by decide) i
theorem jMod.rd37 {h : jH} {σ : mS} (hc : jMod h σ) (hw : wfm σ) {i : Int} (h0 : 0 ≤ i) (h1 : i < 20) : ∃ vs, h 137 = (10, vs) ∧ vs[i.toNat]? = some (vi (mat (σ.2 37) i)) := hc.rd hw (k := 37) (by decide) h0 (show i.toNat < 20 by omega)
theorem jMod.st37 {h : jH} {σ : mS} (hc : jMod h σ) (hw : wfm σ) {i v : Int} (h0 : 0 ≤ i) (h1 : i < 20) : ∃ vs, h 137 = (10, vs) ∧ i.toNat < vs.length ∧ jMod (jup h 137 (10, vs.set i.toNat (vi v))) (mar σ 37 i v) := hc.st hw (k := 37) (by decide) h0 (show i.toNat < 20 by omega)
theorem mo37 : mown 137 := mown_arr (k := 37) (by decide)
theorem wfm.a38 {σ : mS} (hw : wfm σ) (i : Int) : -1 ≤ mat (σ.2 38) i ∧ mat (σ.2 38) i ≤ 40 := hw.rat (k := 38) (by decide) i
theorem jMod.rd38 {h : jH} {σ : mS} (hc : jMod h σ) (hw : wfm σ) {i : Int} (h0 : 0 ≤ i) (h1 : i < 20) : ∃ vs, h 138 = (10, vs) ∧ vs[i.toNat]? = some (vi (mat (σ.2 38) i)) := hc.rd hw (k := 38) (by decide) h0 (show i.toNat < 20 by omega)
theorem jMod.st38 {h : jH} {σ : mS} (hc : jMod h σ) (hw : wfm σ) {i v : Int} (h0 : 0 ≤ i) (h1 : i < 20) : ∃ vs, h 138 = (10, vs) ∧ i.toNat < vs.length ∧ jMod (jup h 138 (10, vs.set i.toNat (vi v))) (mar σ 38 i v) := hc.st hw (k := 38) (by decide) h0 (show i.toNat < 20 by omega)
theorem mo38 : mown 138 := mown_arr (k := 38) (by decide)
theorem jMod.pf39 {h : jH} {σ : mS} {v : Int} (hc : jMod h σ) : ∃ fs, h 116 = (7, fs) ∧ 39 < fs.length ∧ jMod (jup h 116 (7, fs.set 39 (vi v))) (mfl σ 39 v) :=
  ⟨_, hc.1, Nat.le_of_ble_eq_true rfl, by rw [jup_same]; rfl, fun a ha => by rw [jup_ne (by have := apos_own a (marr_lt ha) ha; omega)]; exact hc.2 a ha⟩
theorem wfm.f39 {σ : mS} (hw : wfm σ) : 0 ≤ σ.1 39 ∧ σ.1 39 ≤ 20 := (hw 39 (by decide)).1
theorem wfm.a40 {σ : mS} (hw : wfm σ) (i : Int) : 0 ≤ mat (σ.2 40) i ∧ mat (σ.2 40) i ≤ 40 := hw.rat (k := 40) (by decide) i
theorem jMod.rd40 {h : jH} {σ : mS} (hc : jMod h σ) (hw : wfm σ) {i : Int} (h0 : 0 ≤ i) (h1 : i < 20) : ∃ vs, h 139 = (10, vs) ∧ vs[i.toNat]? = some (vi (mat (σ.2 40) i)) := hc.rd hw (k := 40) (by decide) h0 (show i.toNat < 20 by omega)
theorem jMod.st40 {h : jH} {σ : mS} (hc : jMod h σ) (hw : wfm σ) {i v : Int} (h0 : 0 ≤ i) (h1 : i < 20) : ∃ vs, h 139 = (10, vs) ∧ i.toNat < vs.length ∧ jMod (jup h 139 (10, vs.set i.toNat (vi v))) (mar σ 40 i v) := hc.st hw (k := 40) (by decide) h0 (show i.toNat < 20 by omega)
theorem mo40 : mown 139 := mown_arr (k := 40) (by decide)
theorem wfm.a41 {σ : mS} (hw : wfm σ) (i : Int) : 0 ≤ mat (σ.2 41) i ∧ mat (σ.2 41) i ≤ 40 := hw.rat (k := 41) (by decide) i
theorem jMod.rd41 {h : jH} {σ : mS} (hc : jMod h σ) (hw : wfm σ) {i : Int} (h0 : 0 ≤ i) (h1 : i < 20) : ∃ vs, h 140 = (10, vs) ∧ vs[i.toNat]? = some (vi (mat (σ.2 41) i)) := hc.rd hw (k := 41) (by decide) h0 (show i.toNat < 20 by omega)
theorem jMod.st41 {h : jH} {σ : mS} (hc : jMod h σ) (hw : wfm σ) {i v : Int} (h0 : 0 ≤ i) (h1 : i < 20) : ∃ vs, h 140 = (10, vs) ∧ i.toNat < vs.length ∧ jMod (jup h 140 (10, vs.set i.toNat (vi v))) (mar σ 41 i v) := hc.st hw (k := 41) (by decide) h0 (show i.toNat < 20 by omega)
theorem mo41 : mown 140 := mown_arr (k := 41) (by decide)
theorem wfm.a42 {σ : mS} (hw : wfm σ) (i : Int) : 0 ≤ mat (σ.2 42) i ∧ mat (σ.2 42) i ≤ 3 := hw.rat (k := 42) (by decide) i
theorem jMod.rd42 {h : jH} {σ : mS} (hc : jMod h σ) (hw : wfm σ) {i : Int} (h0 : 0 ≤ i) (h1 : i < 20) : ∃ vs, h 141 = (10, vs) ∧ vs[i.toNat]? = some (vi (mat (σ.2 42) i)) := hc.rd hw (k := 42) (by decide) h0 (show i.toNat < 20 by omega)
theorem jMod.st42 {h : jH} {σ : mS} (hc : jMod h σ) (hw : wfm σ) {i v : Int} (h0 : 0 ≤ i) (h1 : i < 20) : ∃ vs, h 141 = (10, vs) ∧ i.toNat < vs.length ∧ jMod (jup h 141 (10, vs.set i.toNat (vi v))) (mar σ 42 i v) := hc.st hw (k := 42) (by decide) h0 (show i.toNat < 20 by omega)
theorem mo42 : mown 141 := mown_arr (k := 42) (by decide)
theorem jMod.pf43 {h : jH} {σ : mS} {v : Int} (hc : jMod h σ) : ∃ fs, h 116 = (7, fs) ∧ 43 < fs.length ∧ jMod (jup h 116 (7, fs.set 43 (vi v))) (mfl σ 43 v) :=
  ⟨_, hc.1, Nat.le_of_ble_eq_true rfl, by rw [jup_same]; rfl, fun a ha => by rw [jup_ne (by have := apos_own a (marr_lt ha) ha; omega)]; exact hc.2 a ha⟩
theorem wfm.f43 {σ : mS} (hw : wfm σ) : -1 ≤ σ.1 43 ∧ σ.1 43 ≤ 23 := (hw 43 (by decide)).1
theorem jMod.pf44 {h : jH} {σ : mS} {v : Int} (hc : jMod h σ) : ∃ fs, h 116 = (7, fs) ∧ 44 < fs.length ∧ jMod (jup h 116 (7, fs.set 44 (vi v))) (mfl σ 44 v) :=
  ⟨_, hc.1, Nat.le_of_ble_eq_true rfl, by rw [jup_same]; rfl, fun a ha => by rw [jup_ne (by have := apos_own a (marr_lt ha) ha; omega)]; exact hc.2 a ha⟩
theorem wfm.f44 {σ : mS} (hw : wfm σ) : 0 ≤ σ.1 44 ∧ σ.1 44 ≤ 99 := (hw 44 (by decide)).1
theorem jMod.pf45 {h : jH} {σ : mS} {v : Int} (hc : jMod h σ) : ∃ fs, h 116 = (7, fs) ∧ 45 < fs.length ∧ jMod (jup h 116 (7, fs.set 45 (vi v))) (mfl σ 45 v) :=
  ⟨_, hc.1, Nat.le_of_ble_eq_true rfl, by rw [jup_same]; rfl, fun a ha => by rw [jup_ne (by have := apos_own a (marr_lt ha) ha; omega)]; exact hc.2 a ha⟩
theorem wfm.f45 {σ : mS} (hw : wfm σ) : 0 ≤ σ.1 45 ∧ σ.1 45 ≤ 4 := (hw 45 (by decide)).1
theorem wfm.a46 {σ : mS} (hw : wfm σ) (i : Int) : 0 ≤ mat (σ.2 46) i ∧ mat (σ.2 46) i ≤ 23 := hw.rat (k := 46) (by decide) i
theorem jMod.rd46 {h : jH} {σ : mS} (hc : jMod h σ) (hw : wfm σ) {i : Int} (h0 : 0 ≤ i) (h1 : i < 4) : ∃ vs, h 142 = (10, vs) ∧ vs[i.toNat]? = some (vi (mat (σ.2 46) i)) := hc.rd hw (k := 46) (by decide) h0 (show i.toNat < 4 by omega)
theorem jMod.st46 {h : jH} {σ : mS} (hc : jMod h σ) (hw : wfm σ) {i v : Int} (h0 : 0 ≤ i) (h1 : i < 4) : ∃ vs, h 142 = (10, vs) ∧ i.toNat < vs.length ∧ jMod (jup h 142 (10, vs.set i.toNat (vi v))) (mar σ 46 i v) := hc.st hw (k := 46) (by decide) h0 (show i.toNat < 4 by omega)
theorem mo46 : mown 142 := mown_arr (k := 46) (by decide)
theorem wfm.a47 {σ : mS} (hw : wfm σ) (i : Int) : 0 ≤ mat (σ.2 47) i ∧ mat (σ.2 47) i ≤ 99 := hw.rat (k := 47) (by decide) i
theorem jMod.rd47 {h : jH} {σ : mS} (hc : jMod h σ) (hw : wfm σ) {i : Int} (h0 : 0 ≤ i) (h1 : i < 4) : ∃ vs, h 143 = (10, vs) ∧ vs[i.toNat]? = some (vi (mat (σ.2 47) i)) := hc.rd hw (k := 47) (by decide) h0 (show i.toNat < 4 by omega)
theorem jMod.st47 {h : jH} {σ : mS} (hc : jMod h σ) (hw : wfm σ) {i v : Int} (h0 : 0 ≤ i) (h1 : i < 4) : ∃ vs, h 143 = (10, vs) ∧ i.toNat < vs.length ∧ jMod (jup h 143 (10, vs.set i.toNat (vi v))) (mar σ 47 i v) := hc.st hw (k := 47) (by decide) h0 (show i.toNat < 4 by omega)
theorem mo47 : mown 143 := mown_arr (k := 47) (by decide)
theorem jMod.pf48 {h : jH} {σ : mS} {v : Int} (hc : jMod h σ) : ∃ fs, h 116 = (7, fs) ∧ 48 < fs.length ∧ jMod (jup h 116 (7, fs.set 48 (vi v))) (mfl σ 48 v) :=
  ⟨_, hc.1, Nat.le_of_ble_eq_true rfl, by rw [jup_same]; rfl, fun a ha => by rw [jup_ne (by have := apos_own a (marr_lt ha) ha; omega)]; exact hc.2 a ha⟩
theorem wfm.f48 {σ : mS} (hw : wfm σ) : 0 ≤ σ.1 48 ∧ σ.1 48 ≤ 1200 := (hw 48 (by decide)).1
theorem wfm.a49 {σ : mS} (hw : wfm σ) (i : Int) : 0 ≤ mat (σ.2 49) i ∧ mat (σ.2 49) i ≤ 255 := hw.rat (k := 49) (by decide) i
theorem jMod.rd49 {h : jH} {σ : mS} (hc : jMod h σ) (hw : wfm σ) {i : Int} (h0 : 0 ≤ i) (h1 : i < 1200) : ∃ vs, h 144 = (10, vs) ∧ vs[i.toNat]? = some (vi (mat (σ.2 49) i)) := hc.rd hw (k := 49) (by decide) h0 (show i.toNat < 1200 by omega)
theorem jMod.st49 {h : jH} {σ : mS} (hc : jMod h σ) (hw : wfm σ) {i v : Int} (h0 : 0 ≤ i) (h1 : i < 1200) : ∃ vs, h 144 = (10, vs) ∧ i.toNat < vs.length ∧ jMod (jup h 144 (10, vs.set i.toNat (vi v))) (mar σ 49 i v) := hc.st hw (k := 49) (by decide) h0 (show i.toNat < 1200 by omega)
theorem mo49 : mown 144 := mown_arr (k := 49) (by decide)
theorem jMod.pf50 {h : jH} {σ : mS} {v : Int} (hc : jMod h σ) : ∃ fs, h 116 = (7, fs) ∧ 50 < fs.length ∧ jMod (jup h 116 (7, fs.set 50 (vi v))) (mfl σ 50 v) :=
  ⟨_, hc.1, Nat.le_of_ble_eq_true rfl, by rw [jup_same]; rfl, fun a ha => by rw [jup_ne (by have := apos_own a (marr_lt ha) ha; omega)]; exact hc.2 a ha⟩
theorem wfm.f50 {σ : mS} (hw : wfm σ) : 0 ≤ σ.1 50 ∧ σ.1 50 ≤ 2400 := (hw 50 (by decide)).1
theorem wfm.a51 {σ : mS} (hw : wfm σ) (i : Int) : 0 ≤ mat (σ.2 51) i ∧ mat (σ.2 51) i ≤ 255 := hw.rat (k := 51) (by decide) i
theorem jMod.rd51 {h : jH} {σ : mS} (hc : jMod h σ) (hw : wfm σ) {i : Int} (h0 : 0 ≤ i) (h1 : i < 2400) : ∃ vs, h 145 = (10, vs) ∧ vs[i.toNat]? = some (vi (mat (σ.2 51) i)) := hc.rd hw (k := 51) (by decide) h0 (show i.toNat < 2400 by omega)
theorem jMod.st51 {h : jH} {σ : mS} (hc : jMod h σ) (hw : wfm σ) {i v : Int} (h0 : 0 ≤ i) (h1 : i < 2400) : ∃ vs, h 145 = (10, vs) ∧ i.toNat < vs.length ∧ jMod (jup h 145 (10, vs.set i.toNat (vi v))) (mar σ 51 i v) := hc.st hw (k := 51) (by decide) h0 (show i.toNat < 2400 by omega)
theorem mo51 : mown 145 := mown_arr (k := 51) (by decide)
theorem jMod.pf52 {h : jH} {σ : mS} {v : Int} (hc : jMod h σ) : ∃ fs, h 116 = (7, fs) ∧ 52 < fs.length ∧ jMod (jup h 116 (7, fs.set 52 (vi v))) (mfl σ 52 v) :=
  ⟨_, hc.1, Nat.le_of_ble_eq_true rfl, by rw [jup_same]; rfl, fun a ha => by rw [jup_ne (by have := apos_own a (marr_lt ha) ha; omega)]; exact hc.2 a ha⟩
theorem wfm.f52 {σ : mS} (hw : wfm σ) : 0 ≤ σ.1 52 ∧ σ.1 52 ≤ 1 := (hw 52 (by decide)).1
