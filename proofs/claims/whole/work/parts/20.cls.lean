/-! the class's cells: position 1 the desk, 2 its text, 5 the tables' array, 6 and 9 the papers, 12 and 42 the envelopes, 72 83 94 105 the tables; a row's array stands behind it -/
def kdL : List Nat := [20, 6, 5, 3, 10, 13, 1, 3, 10, 1, 3, 10, 0, 2, 3, 10, 3, 10, 3, 10, 3, 10, 3, 10, 3, 10, 3, 10, 3, 10, 3, 10, 3, 10, 3, 10, 3, 10, 3, 10, 3, 10, 0, 2, 3, 10, 3, 10, 3, 10, 3, 10, 3, 10, 3, 10, 3, 10, 3, 10, 3, 10, 3, 10, 3, 10, 3, 10, 3, 10, 3, 10, 4, 3, 10, 3, 10, 3, 10, 3, 10, 3, 10, 4, 3, 10, 3, 10, 3, 10, 3, 10, 3, 10, 4, 3, 10, 3, 10, 3, 10, 3, 10, 3, 10, 4, 3, 10, 3, 10, 3, 10, 3, 10, 3, 10]
def capL : List Nat := [0, 0, 0, 400, 0, 0, 0, 800, 0, 0, 1060, 0, 0, 0, 40, 0, 41, 0, 121, 0, 121, 0, 400, 0, 19, 0, 19, 0, 19, 0, 19, 0, 19, 0, 9, 0, 9, 0, 9, 0, 9, 0, 0, 0, 40, 0, 41, 0, 121, 0, 121, 0, 400, 0, 19, 0, 19, 0, 19, 0, 19, 0, 19, 0, 9, 0, 9, 0, 9, 0, 9, 0, 0, 24, 0, 24, 0, 24, 0, 24, 0, 24, 0, 0, 24, 0, 24, 0, 24, 0, 24, 0, 24, 0, 0, 24, 0, 24, 0, 24, 0, 24, 0, 24, 0, 0, 24, 0, 24, 0, 24, 0, 24, 0, 24, 0]
def kd (k : Nat) : Nat := kdL.getD k 99
def cap (k : Nat) : Nat := capL.getD k 0
theorem kd_lt {k c : Nat} (h : kd k = c) (hc : c ≠ 99) : k < 116 := by
  rcases Nat.lt_or_ge k 116 with q | q
  · exact q
  · have : kd k = 99 := by unfold kd; rw [List.getD_eq_getElem?_getD, List.getElem?_eq_none (by show kdL.length ≤ k; exact q)]; rfl
    exact absurd (h.symm.trans this) hc
theorem kd_all {c : Nat} {Q : Nat → Prop} (hc : c ≠ 99) (h : ∀ k, k < 116 → kd k = c → Q k) {k : Nat} (hk : kd k = c) : Q k := h k (kd_lt hk hc) hk
theorem kd_row {r : Nat} (h : kd r = 3) : kd (r + 1) = 10 ∧ 0 < cap r ∧ cap r < 2000 := kd_all (c := 3) (Q := fun r => kd (r + 1) = 10 ∧ 0 < cap r ∧ cap r < 2000) (by decide) (by decide) h
/-- the class's state: what the rows hold, what the objects' int fields hold, which envelopes are kept -/
abbrev cS : Type := (Nat → List Int) × (Nat → Nat → Int) × Nat
def jrow (h : jH) (r : Nat) (xs : List Int) : Prop := h r = (3, [.ref (r + 1), vi xs.length]) ∧ ∃ ys : List Int, h (r + 1) = (10, (xs ++ ys).map vi) ∧ xs.length + ys.length = cap r
def jown (k : Nat) : Prop := 1 ≤ k ∧ k < 116
abbrev Yx (m : jM) : jY := (m, [])
def jCls (h : jH) (σ : cS) : Prop :=
  (∀ r, kd r = 3 → jrow h r (σ.1 r)) ∧
  (∀ p, kd p = 2 → h p = (2, [.ref (p + 1), .ref (p + 3), .ref (p + 5), .ref (p + 7), .ref (p + 9)])) ∧
  (∀ e, kd e = 0 → h e = (0, [.ref (e + 1), .ref (e + 12), .ref (e + 14), .ref (e + 16), .ref (e + 18), .ref (e + 20), .ref (e + 22), .ref (e + 24), .ref (e + 26), .ref (e + 28), vi (σ.2.1 e 10), vi (σ.2.1 e 11)])) ∧
  (∀ t, kd t = 4 → h t = (4, [.ref (t + 1), .ref (t + 3), .ref (t + 5), .ref (t + 7), vi (σ.2.1 t 4), vi (σ.2.1 t 5), .ref (t + 9), vi (σ.2.1 t 7), vi (σ.2.1 t 8)])) ∧
  (∀ x, kd x = 5 → h x = (5, [.ref (x + 1), vi (σ.2.1 x 1), vi (σ.2.1 x 2), vi (σ.2.1 x 3), vi (σ.2.1 x 4), vi (σ.2.1 x 5)])) ∧
  (∀ q, kd q = 1 → h q = (1, [.ref (q + 1)])) ∧
  h 5 = (13, [.ref 72, .ref 83, .ref 94, .ref 105]) ∧
  h 1 = (6, [.ref 2, .ref 5, .ref 6, .ref 9, .ref σ.2.2, .ref (54 - σ.2.2), vi (σ.2.1 1 6), vi (σ.2.1 1 7)])
def upR (R : Nat → List Int) (r : Nat) (xs : List Int) : Nat → List Int := fun k => if k = r then xs else R k
def upI (I : Nat → Nat → Int) (p k : Nat) (v : Int) : Nat → Nat → Int := fun q j => if q = p ∧ j = k then v else I q j
theorem upR_same {R : Nat → List Int} {r : Nat} {xs : List Int} : upR R r xs r = xs := by simp [upR]
theorem upR_ne {R : Nat → List Int} {r k : Nat} {xs : List Int} (h : k ≠ r) : upR R r xs k = R k := by simp [upR, h]
theorem upI_same {I : Nat → Nat → Int} {p k : Nat} {v : Int} : upI I p k v p k = v := by simp [upI]
/-- a row is written -/
theorem jCls.row {h h' : jH} {σ : cS} {r : Nat} {xs : List Int} (hc : jCls h σ) (hr : kd r = 3) (hx : jrow h' r xs) (ho : ∀ k, k ≠ r → k ≠ r + 1 → h' k = h k) : jCls h' (upR σ.1 r xs, σ.2) := by
  obtain ⟨h1, h2, h3, h4, h5, h6, h7, h8⟩ := hc
  have hk := kd_row hr
  have ne : ∀ {k c : Nat}, kd k = c → c ≠ 3 → c ≠ 10 → h' k = h k := fun hkc n3 n10 => ho _ (fun e => n3 (by rw [← hkc, e, hr])) (fun e => n10 (by rw [← hkc, e, hk.1]))
  refine ⟨fun q hq => ?_, fun p hp => by rw [ne hp (by decide) (by decide)]; exact h2 p hp, fun p hp => by rw [ne hp (by decide) (by decide)]; exact h3 p hp, fun p hp => by rw [ne hp (by decide) (by decide)]; exact h4 p hp, fun p hp => by rw [ne hp (by decide) (by decide)]; exact h5 p hp, fun p hp => by rw [ne hp (by decide) (by decide)]; exact h6 p hp, by rw [ne (c := 13) (by decide) (by decide) (by decide)]; exact h7, by rw [ne (c := 6) (by decide) (by decide) (by decide)]; exact h8⟩
  by_cases e : q = r
  · subst e
    show jrow h' q (upR σ.1 q xs q)
    rw [upR_same]; exact hx
  · have hq' := kd_row hq
    obtain ⟨x1, ys, x2, x3⟩ := h1 q hq
    have a1 : h' q = h q := ho q e (fun e2 => by rw [e2, hk.1] at hq; exact absurd hq (by decide))
    have a2 : h' (q + 1) = h (q + 1) := ho (q + 1) (fun e2 => by rw [e2, hr] at hq'; exact absurd hq'.1 (by decide)) (fun e2 => e (Nat.succ.inj e2))
    show jrow h' q (upR σ.1 r xs q)
    rw [upR_ne e]
    exact ⟨a1.trans x1, ys, a2.trans x2, x3⟩
/-- what a row reads at i -/
def rat (xs : List Int) (i : Int) : Int := if 0 ≤ i then xs.getD i.toNat (-1) else -1
/-- an answer and a state that are known -/
def det {S : Type} (v : Option Value) (τ : S) : jO → S → Prop := fun o σ => o = .inl v ∧ σ = τ
theorem det_no {S : Type} {v : Option Value} {τ σ : S} {E : String} : ¬ det v τ (.inr E) σ := fun h => by cases h.1
section CD
variable {S : Type} {inv : jH → S → Prop} {own : Nat → Prop} {l : Launch} {G : jG} {Y : jY} {d bc bs pc : Nat} {ls : List (Option Value)} {st : List Value} {σ : S} {P : jO → S → Prop}
/-- calls whose answer and state are known -/
theorem D_callV {idx r ci d' : Nat} {Y' : jM} {As : List Value} {ls0 : List (Option Value)} {v : Option Value} {τ : S} (hM : CJ inv own l G (Y', []) d' 0 0 0 ls0 [] σ (det v τ)) (hd : decode Y.1.2.1 pc = .ok (.invokevirtual idx, 3)) (hv : jvir Y.1.1.cls idx ci Y' As.length) (hc : ∀ h, inv h σ → ∃ fs, h r = (ci, fs)) (hls : ls0 = jent (.ref r :: As) Y'.2.2.1) (hn : (jflat (.ref r :: As)).length ≤ Y'.2.2.1) (hdd : d' + 1 ≤ d) (hw : (st.map fun v => v.category).sum ≤ 8)
    (kk : CJ inv own l G Y d bc bs (pc + 3) ls (v.toList ++ st) τ P) : CJ inv own l G Y d bc bs pc ls (As.reverse ++ .ref r :: st) σ P :=
  C_callV (bc' := 0) (bs' := 0) hd hv hc hls hn hdd hw hM (fun E s' q => (det_no q).elim) (fun v' s' q => by obtain ⟨e1, e2⟩ := q; cases Sum.inl.inj e1; subst e2; exact kk)
theorem D_callS {idx d' : Nat} {Y' : jM} {As : List Value} {ls0 : List (Option Value)} {v : Option Value} {τ : S} (hM : CJ inv own l G (Y', []) d' 0 0 0 ls0 [] σ (det v τ)) (hd : decode Y.1.2.1 pc = .ok (.invokestatic idx, 3)) (hv : jsta Y.1.1.cls idx Y' As.length) (hls : ls0 = jent As Y'.2.2.1) (hn : (jflat As).length ≤ Y'.2.2.1) (hdd : d' + 1 ≤ d) (hw : (st.map fun v => v.category).sum ≤ 8)
    (kk : CJ inv own l G Y d bc bs (pc + 3) ls (v.toList ++ st) τ P) : CJ inv own l G Y d bc bs pc ls (As.reverse ++ st) σ P :=
  C_callS (bc' := 0) (bs' := 0) hd hv hls hn hdd hw hM (fun E s' q => (det_no q).elim) (fun v' s' q => by obtain ⟨e1, e2⟩ := q; cases Sum.inl.inj e1; subst e2; exact kk)
theorem D_callSN {idx d' : Nat} {host : String} {Y' : jM} {As : List Value} {ls0 : List (Option Value)} {v : Option Value} {τ : S} (hM : CJ inv own l G (Y', []) d' 0 0 0 ls0 [] σ (det v τ)) (hd : decode Y.1.2.1 pc = .ok (.invokestatic idx, 3)) (hv : jstN Y.1.1.cls idx host Y' As.length) (hls : ls0 = jent As Y'.2.2.1) (hn : (jflat As).length ≤ Y'.2.2.1) (hdd : d' + 1 ≤ d) (hw : (st.map fun v => v.category).sum ≤ 8)
    (kk : CJ inv own l G Y d bc bs (pc + 3) ls (v.toList ++ st) τ P) : CJ inv own l G Y d bc bs pc ls (As.reverse ++ st) σ P :=
  C_callSN (bc' := 0) (bs' := 0) hd hv hls hn hdd hw hM (fun E s' q => (det_no q).elim) (fun v' s' q => by obtain ⟨e1, e2⟩ := q; cases Sum.inl.inj e1; subst e2; exact kk)
end CD
