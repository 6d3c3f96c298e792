/-! what the class's state has to do with the model's -/
/-- a row of the class holds n numbers of an array of the model, from b on -/
def rowIs (row arr : List Int) (b n : Int) : Prop := (row.length : Int) = n ∧ ∀ i : Int, 0 ≤ i → i < n → rat row i = mat arr (b + i)
theorem rowIs_nil {arr : List Int} {b : Int} : rowIs [] arr b 0 := ⟨rfl, fun i h0 h1 => absurd h1 (by omega)⟩
theorem rat_out {row : List Int} {i : Int} (h : i < 0 ∨ (row.length : Int) ≤ i) : rat row i = -1 := by
  unfold rat
  split
  · rw [List.getD_eq_getElem?_getD, List.getElem?_eq_none (by omega)]; rfl
  · rfl
theorem rat_app {row : List Int} {v i : Int} (h0 : 0 ≤ i) (h1 : i < row.length) : rat (row ++ [v]) i = rat row i := by
  unfold rat
  rw [if_pos h0, if_pos h0, List.getD_eq_getElem?_getD, List.getD_eq_getElem?_getD, List.getElem?_append_left (by omega)]
theorem rat_last {row : List Int} {v : Int} {i : Int} (h : i = (row.length : Int)) : rat (row ++ [v]) i = v := by
  subst h
  unfold rat
  rw [if_pos (by omega), List.getD_eq_getElem?_getD, Int.toNat_natCast, List.getElem?_append_right (Nat.le_refl _), Nat.sub_self]; rfl
theorem rat_set {row : List Int} {v : Int} {i : Int} (h0 : 0 ≤ i) (h1 : i < row.length) : rat (row.set i.toNat v) i = v := by
  unfold rat
  rw [if_pos h0, List.getD_eq_getElem?_getD, List.getElem?_set_self (by omega)]; rfl
theorem rat_set_ne {row : List Int} {v : Int} {i j : Int} (h : 0 ≤ i) (hne : i ≠ j) : rat (row.set i.toNat v) j = rat row j := by
  unfold rat
  split
  · rw [List.getD_eq_getElem?_getD, List.getD_eq_getElem?_getD, List.getElem?_set_ne (by omega)]
  · rfl
theorem rowIs_add {row arr : List Int} {b n v : Int} (h : rowIs row arr b n) (hb : 0 ≤ b) (hl : b + n < arr.length) : rowIs (row ++ [v]) (arr.set (b + n).toNat v) b (n + 1) := by
  obtain ⟨h1, h2⟩ := h
  refine ⟨by rw [List.length_append]; simp; omega, fun i g0 g1 => ?_⟩
  by_cases e : i = n
  · subst e
    rw [rat_last (by omega), mat_set (by omega)]
  · rw [rat_app g0 (by omega), mat_set_ne (by omega)]; exact h2 i g0 (by omega)
theorem rowIs_out {row arr : List Int} {b n v j : Int} (h : rowIs row arr b n) (hb : 0 ≤ b) (hj0 : 0 ≤ j) (hj : j < b ∨ b + n ≤ j) : rowIs row (arr.set j.toNat v) b n :=
  ⟨h.1, fun i g0 g1 => by rw [mat_set_ne (by omega)]; exact h.2 i g0 g1⟩
theorem rowIs_in {row arr : List Int} {b n v i : Int} (h : rowIs row arr b n) (hb : 0 ≤ b) (hl : b + n ≤ arr.length) (h0 : 0 ≤ i) (h1 : i < n) : rowIs (row.set i.toNat v) (arr.set (b + i).toNat v) b n := by
  obtain ⟨a1, a2⟩ := h
  refine ⟨by rw [List.length_set]; exact a1, fun j g0 g1 => ?_⟩
  by_cases e : j = i
  · subst e; rw [rat_set g0 (by omega), mat_set (by omega)]
  · rw [rat_set_ne h0 (by omega), mat_set_ne (by omega)]; exact a2 j g0 g1
theorem rowIs.in {row arr : List Int} {n i : Int} (h : rowIs row arr 0 n) (h0 : 0 ≤ i) (h1 : i < n) : rat row i = mat arr i := by
  have := h.2 i h0 h1
  rw [Int.zero_add] at this; exact this
/-- how many groups stand around, g with them -/
def ch (μ : mS) (t g : Int) : Int := if g < 0 then 0 else if mi μ t g < 0 then 1 else if mi μ t (mi μ t g) < 0 then 2 else if mi μ t (mi μ t (mi μ t g)) < 0 then 3 else 4
/-- a table of the model is as calls make it -/
def tabOK (μ : mS) (t : Int) : Prop :=
  (∀ x, 0 ≤ x → x < mat (μ.2 3) t → mi μ t x < x ∧ (0 ≤ mi μ t x → mat (μ.2 4) (24 * t + mi μ t x) = 0)) ∧
  (mat (μ.2 8) t < mat (μ.2 3) t ∧ (0 ≤ mat (μ.2 8) t → mat (μ.2 4) (24 * t + mat (μ.2 8) t) = 0)) ∧
  (∀ g, 0 ≤ g → g + 1 < mat (μ.2 3) t → mat (μ.2 4) (24 * t + g) = 0 → mi μ t (g + 1) = g) ∧
  (0 < mat (μ.2 3) t → mat (μ.2 4) (24 * t + (mat (μ.2 3) t - 1)) = 0 → mat (μ.2 8) t = mat (μ.2 3) t - 1) ∧
  mT μ t
def tb (t : Int) : Nat := 72 + 11 * t.toNat
def TabR (σ : cS) (μ : mS) (t : Int) : Prop :=
  rowIs (σ.1 (tb t + 1)) (μ.2 4) (24 * t) (mat (μ.2 3) t) ∧ rowIs (σ.1 (tb t + 3)) (μ.2 5) (24 * t) (mat (μ.2 3) t) ∧ rowIs (σ.1 (tb t + 5)) (μ.2 6) (24 * t) (mat (μ.2 3) t) ∧ rowIs (σ.1 (tb t + 7)) (μ.2 7) (24 * t) (mat (μ.2 3) t) ∧
  σ.2.1 (tb t) 4 = mat (μ.2 8) t ∧ σ.2.1 (tb t) 5 = ch μ t (mat (μ.2 8) t) ∧ tabOK μ t
/-- the numbers of parts that the model holds fit each other -/
def partsOK (a25 a26 a28 a30 : List Int) (S E C N : Int) : Prop :=
  (0 ≤ S ∧ 0 ≤ E ∧ 0 ≤ C ∧ 0 ≤ N) ∧ 4 * S + C + N ≤ 400 ∧
  (∀ s, 0 ≤ s → s < S → 4276545 ≤ mat a25 s) ∧
  (mat a26 0 = 0 ∧ mat a26 S = E ∧ ∀ s, 0 ≤ s → s < S → mat a26 s ≤ mat a26 (s + 1)) ∧
  (mat a28 0 = 0 ∧ mat a28 E = C ∧ ∀ x, 0 ≤ x → x < E → mat a28 x < mat a28 (x + 1)) ∧
  (mat a30 0 = 0 ∧ mat a30 C = N ∧ ∀ c, 0 ≤ c → c < C → mat a30 c ≤ mat a30 (c + 1))
/-- the parts of the interchange, in the envelopes at e -/
def PartR (σ : cS) (μ : mS) (e : Nat) (N : Int) : Prop :=
  rowIs (σ.1 (e + 2)) (μ.2 25) 0 (μ.1 24) ∧ rowIs (σ.1 (e + 4)) (μ.2 26) 0 (μ.1 24 + 1) ∧ rowIs (σ.1 (e + 6)) (μ.2 28) 0 (μ.1 27 + 1) ∧ rowIs (σ.1 (e + 8)) (μ.2 30) 0 (μ.1 29 + 1) ∧ rowIs (σ.1 (e + 10)) (μ.2 31) 0 N ∧ partsOK (μ.2 25) (μ.2 26) (μ.2 28) (μ.2 30) (μ.1 24) (μ.1 27) (μ.1 29) N
def LoadR (σ : cS) (μ : mS) : Prop :=
  (∃ N, PartR σ μ σ.2.2 N) ∧
  rowIs (σ.1 (σ.2.2 + 12)) (μ.2 34) 0 (μ.1 33) ∧ rowIs (σ.1 (σ.2.2 + 14)) (μ.2 35) 0 (μ.1 33) ∧ rowIs (σ.1 (σ.2.2 + 16)) (μ.2 36) 0 (μ.1 33) ∧ rowIs (σ.1 (σ.2.2 + 18)) (μ.2 37) 0 (μ.1 33) ∧ rowIs (σ.1 (σ.2.2 + 20)) (μ.2 38) 0 (μ.1 33) ∧
  ((σ.1 (σ.2.2 + 22)).length : Int) = μ.1 39 ∧ rowIs (σ.1 (σ.2.2 + 28)) (μ.2 42) 0 (μ.1 39) ∧ σ.2.1 σ.2.2 10 = μ.1 32 ∧
  rowIs (σ.1 7) (μ.2 49) 0 (μ.1 48) ∧ rowIs (σ.1 10) (μ.2 51) 0 (μ.1 50)
def R (σ : cS) (μ : mS) : Prop :=
  wf σ ∧ wfm μ ∧ rowIs (σ.1 3) (μ.2 2) 0 (μ.1 1) ∧ (∀ i, 0 ≤ i → i < μ.1 1 → 32 ≤ mat (μ.2 2) i) ∧ (∀ t, 0 ≤ t → t ≤ 3 → TabR σ μ t) ∧ σ.2.1 1 6 = μ.1 23 ∧ σ.2.1 1 7 = μ.1 13 ∧ (μ.1 23 = 0 ∨ LoadR σ μ)
def ecode (a b : String) : Option String → Int
  | none => 0
  | some E => if E = a then 1 else if E = b then 2 else 3
def IAE : String := "java/lang/IllegalArgumentException"
def ISE : String := "java/lang/IllegalStateException"
def UOE : String := "java/lang/UnsupportedOperationException"
/-- the class and the model answer alike -/
def agr (a b : String) (c : Option String × Int × cS) (m : Int × mS) : Prop := (c.1 = none ∨ c.1 = some a ∨ c.1 = some b) ∧ R c.2.2 m.2 ∧ m.2.1 0 = ecode a b c.1 ∧ (c.1 = none → c.2.1 = m.1)
def agrB (a b : String) (c : Option String × Int × cS) (m : Bool × mS) : Prop := (c.1 = none ∨ c.1 = some a ∨ c.1 = some b) ∧ R c.2.2 m.2 ∧ m.2.1 0 = ecode a b c.1 ∧ (c.1 = none → c.2.1 = bz m.1)
def BIS : Prop := ∀ (σ : cS) (μ : mS), R σ μ →
  (∀ x, (c_type σ x).1 = (c_mtype μ x).1 ∧ R (c_type σ x).2 (c_mtype μ x).2) ∧
  R (c_wipe σ) (c_mwipe μ) ∧
  (c_length σ = (c_mlength μ).1 ∧ R σ (c_mlength μ).2) ∧
  (c_fault σ = (c_mfault μ).1 ∧ R σ (c_mfault μ).2) ∧
  (∀ t v b c, rg t → rg v → 0 ≤ b → b ≤ 1 → rg c → agr IAE ISE (c_slot σ t v b c) (c_mslot μ t v b c)) ∧
  (∀ t b c, rg t → 0 ≤ b → b ≤ 1 → rg c → agr IAE ISE (c_open σ t b c) (c_mopen μ t b c)) ∧
  (∀ t, rg t → agrB IAE IAE (c_close σ t) (c_mclose μ t)) ∧
  (∀ t, rg t → agrB IAE IAE (c_clear σ t) (c_mclear μ t)) ∧
  (∀ a, rg a → agr ISE ISE (c_interchange σ a) (c_minterchange μ a)) ∧
  (∀ a b, rg a → rg b → agr ISE ISE (c_message σ a b) (c_mmessage μ a b)) ∧
  (∀ a, rg a → agr ISE ISE (c_group σ a) (c_mgroup μ a)) ∧
  (∀ s e c i, rg s → rg e → rg c → rg i → agr ISE ISE (c_segment σ s e c i) (c_msegment μ s e c i)) ∧
  (∀ a, rg a → agr ISE ISE (c_print σ a) (c_mprint μ a)) ∧
  (∀ a, rg a → agr ISE ISE (c_report σ a) (c_mreport μ a)) ∧
  (mreadH μ ∧ agr IAE UOE (c_read σ) (c_mread μ))
theorem R.hT {σ : cS} {μ : mS} (h : R σ μ) : ∀ t, 0 ≤ t → t ≤ 3 → mT μ t := fun t h0 h1 => (h.2.2.2.2.1 t h0 h1).2.2.2.2.2.2.2.2.2.2
theorem ch_nn {μ : mS} {t g : Int} : 0 ≤ ch μ t g := by
  unfold ch; (repeat' split) <;> omega
theorem R.hdp {σ : cS} {μ : mS} (h : R σ μ) : ∀ q : Nat, kd q = 4 → 0 ≤ σ.2.1 q 5 := fun q hq => by
  have h2 : q = 72 ∨ q = 83 ∨ q = 94 ∨ q = 105 := kd_all (c := 4) (Q := fun q => q = 72 ∨ q = 83 ∨ q = 94 ∨ q = 105) (by decide) (by decide) hq
  rcases h2 with e | e | e | e <;> subst e
  · rw [show (72 : Nat) = tb 0 from rfl, (h.2.2.2.2.1 0 (by omega) (by omega)).2.2.2.2.2.1]; exact ch_nn
  · rw [show (83 : Nat) = tb 1 from rfl, (h.2.2.2.2.1 1 (by omega) (by omega)).2.2.2.2.2.1]; exact ch_nn
  · rw [show (94 : Nat) = tb 2 from rfl, (h.2.2.2.2.1 2 (by omega) (by omega)).2.2.2.2.2.1]; exact ch_nn
  · rw [show (105 : Nat) = tb 3 from rfl, (h.2.2.2.2.1 3 (by omega) (by omega)).2.2.2.2.2.1]; exact ch_nn
theorem R.hx {σ : cS} {μ : mS} (h : R σ μ) {t : Int} : 0 ≤ t ∧ t ≤ 3 → mat (μ.2 8) t < mat (μ.2 3) t ∧ ∀ q : Int, 0 ≤ q → q < mat (μ.2 3) t → mat (μ.2 7) ((24 * t) + q) < q := fun ht =>
  have k := (h.2.2.2.2.1 t ht.1 ht.2).2.2.2.2.2.2
  ⟨k.2.1.1, fun q h0 h1 => (k.1 q h0 h1).1⟩
def σ0 : cS := (fun _ => [], fun p k => if kd p = 4 ∧ (k = 4 ∨ k = 7 ∨ k = 8) ∨ p = 1 ∧ k = 7 then -1 else 0, 12)
def μ0 : mS := (fun k => if k = 13 then -1 else 0, fun k => if k = 8 then [-1, -1, -1, -1] else List.replicate (mtab.getD k (0, 0, 0)).1 0)
theorem σ0_cls {h : jH} (ht : ∀ k, 1 ≤ k → k < 116 → h k = T0 k) : jCls h σ0 := by
  have at0 : ∀ {k c : Nat}, kd k = c → c ≠ 99 → c ≠ 20 → h k = T0 k := fun {k c} hk h1 h2 => ht k (by
    rcases Nat.eq_zero_or_pos k with e | e
    · subst e; exact absurd (hk.symm.trans (by decide : kd 0 = 20)) h2
    · exact e) (kd_lt hk h1)
  refine ⟨fun r hr => ?_, fun p hp => ?_, fun p hp => ?_, fun p hp => ?_, fun p hp => ?_, fun p hp => ?_, ?_, ?_⟩
  · have k := T0_row hr
    refine ⟨(at0 hr (by decide) (by decide)).trans k.1, List.replicate (cap r) 0, (at0 (kd_row hr).1 (by decide) (by decide)).trans (k.2.trans ?_), by simp [σ0]⟩
    show _ = (10, ([] ++ List.replicate (cap r) (0 : Int)).map vi)
    rw [List.nil_append, List.map_replicate, vi0]
  · exact (at0 hp (by decide) (by decide)).trans (T0_2 hp)
  · have e : p ≠ 1 := fun e => by subst e; exact absurd hp (by decide)
    rw [(at0 hp (by decide) (by decide)).trans (T0_0 hp)]; simp [σ0, hp, e]
  · have e : p ≠ 1 := fun e => by subst e; exact absurd hp (by decide)
    rw [(at0 hp (by decide) (by decide)).trans (T0_4 hp)]; simp [σ0, hp, e]
  · have e : p ≠ 1 := fun e => by subst e; exact absurd hp (by decide)
    rw [(at0 hp (by decide) (by decide)).trans (T0_5 hp)]; simp [σ0, hp, e]
  · exact (at0 hp (by decide) (by decide)).trans (T0_1 hp)
  · exact ht 5 (by omega) (by omega)
  · rw [ht 1 (by omega) (by omega)]; rfl
theorem σ0_wf : wf σ0 := by
  refine ⟨fun r x hx => ?_, fun r hr => Nat.zero_le _, fun p k => ?_, Or.inl rfl⟩
  · cases hx
  · show sm (if kd p = 4 ∧ (k = 4 ∨ k = 7 ∨ k = 8) ∨ p = 1 ∧ k = 7 then -1 else 0)
    split <;> (unfold sm; omega)
theorem apos_t7 : ∀ k, k < 53 → marr k = true → T7L.getD (apos k - 117) 0 = (mtab.getD k (0, 0, 0)).1 ∧ akd k = (if apos k = 120 then 12 else 10) ∧ (apos k = 123 ↔ k = 8) := by decide +kernel
theorem μ0_mod {h : jH} (h1 : h 116 = (7, mfs (fun k => if k = 13 then -1 else 0))) (h2 : ∀ k, 117 ≤ k → k < 146 → k ≠ 123 → h k = T7 k) (h3 : h 123 = (10, [vi (-1), vi (-1), vi (-1), vi (-1)])) : jMod h μ0 := by
  refine ⟨h1, fun k hk => ?_⟩
  have hl := marr_lt hk
  have ha := apos_own k hl hk
  have ht := apos_t7 k hl hk
  by_cases e : k = 8
  · subst e; exact h3
  · rw [h2 _ ha.1 ha.2 (fun q => e (ht.2.2.mp q))]
    unfold T7
    rw [ht.1, ← ht.2.1]
    show _ = (akd k, (if k = 8 then [-1, -1, -1, -1] else List.replicate (mtab.getD k (0, 0, 0)).1 0).map vi)
    rw [if_neg e, List.map_replicate, vi0]
theorem μ0_wf : wfm μ0 := by
  intro k hk
  have h0 := mtab0 k hk
  refine ⟨?_, ?_, fun x hx => ?_⟩
  · show _ ≤ (if k = 13 then (-1 : Int) else 0) ∧ (if k = 13 then (-1 : Int) else 0) ≤ _
    split
    · rename_i e; subst e; decide
    · exact h0
  · show (if k = 8 then [-1, -1, -1, -1] else List.replicate (mtab.getD k (0, 0, 0)).1 0).length = _
    split
    · rename_i e; subst e; rfl
    · rw [List.length_replicate]
  · have hy : x ∈ (if k = 8 then [-1, -1, -1, -1] else List.replicate (mtab.getD k (0, 0, 0)).1 0) := hx
    clear hx
    split at hy
    · rename_i e; subst e
      have : x = -1 := by simpa using hy
      subst this; decide
    · rw [(List.mem_replicate.mp hy).2]; exact h0
theorem R0 : R σ0 μ0 := by
  refine ⟨σ0_wf, μ0_wf, rowIs_nil, fun i h0 h1 => absurd (show i < 0 from h1) (by omega), fun t h0 h1 => ?_, rfl, rfl, Or.inl rfl⟩
  have e3 : mat (μ0.2 3) t = 0 := by
    have : t = 0 ∨ t = 1 ∨ t = 2 ∨ t = 3 := by omega
    rcases this with e | e | e | e <;> subst e <;> rfl
  have e8 : mat (μ0.2 8) t = -1 := by
    have : t = 0 ∨ t = 1 ∨ t = 2 ∨ t = 3 := by omega
    rcases this with e | e | e | e <;> subst e <;> rfl
  have kt : kd (tb t) = 4 := by
    have : t = 0 ∨ t = 1 ∨ t = 2 ∨ t = 3 := by omega
    rcases this with e | e | e | e <;> subst e <;> decide
  have k1 : tb t ≠ 1 := by unfold tb; omega
  unfold TabR tabOK mT
  rw [e3, e8]
  refine ⟨rowIs_nil, rowIs_nil, rowIs_nil, rowIs_nil, by simp [σ0, kt], ?_, fun x a b => by omega, ⟨by omega, fun q => by omega⟩, fun g a b => by omega, fun q => by omega, fun a b c => by omega⟩
  show (if kd (tb t) = 4 ∧ (5 = 4 ∨ 5 = 7 ∨ 5 = 8) ∨ tb t = 1 ∧ 5 = 7 then (-1 : Int) else 0) = ch μ0 t (-1)
  rw [if_neg (by omega)]; rfl
