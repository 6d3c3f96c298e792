/-! envelopes: what class and model hold of them -/
def cntg (arr : List Int) (g : Int) : Nat → Int
  | 0 => 0
  | i + 1 => cntg arr g i + (if mat arr (i : Int) = g then 1 else 0)
theorem cntg_congr {a b : List Int} {g : Int} : ∀ m : Nat, (∀ i : Int, 0 ≤ i → i < m → mat a i = mat b i) → cntg a g m = cntg b g m
  | 0, _ => rfl
  | m + 1, h => by rw [cntg, cntg, cntg_congr m (fun i h0 h1 => h i h0 (by omega)), h (m : Int) (by omega) (by omega)]
theorem cntg_zero {a : List Int} {g : Int} : ∀ m : Nat, (∀ i : Int, 0 ≤ i → i < m → mat a i ≠ g) → cntg a g m = 0
  | 0, _ => rfl
  | m + 1, h => by rw [cntg, cntg_zero m (fun i h0 h1 => h i h0 (by omega)), if_neg (h (m : Int) (by omega) (by omega))]; rfl
theorem cntg_split {a : List Int} {g : Int} (b : Int) (h0 : 0 ≤ b) : ∀ m : Nat, b ≤ m → (∀ i : Int, 0 ≤ i → i < b → mat a i ≠ g) → (∀ i : Int, b ≤ i → i < m → mat a i = g) → cntg a g m = m - b
  | 0, h, _, _ => by have : b = 0 := by omega
                     subst this; rfl
  | m + 1, h, h1, h2 => by
    by_cases e : b = ((m + 1 : Nat) : Int)
    · rw [cntg_zero (m + 1) (fun i a b => h1 i a (by omega))]; omega
    · rw [cntg, cntg_split b h0 m (by omega) h1 (fun i a b => h2 i a (by omega)), if_pos (h2 (m : Int) (by omega) (by omega))]; omega
def ORD (ν : mS) (n k m gC gM : Int) : Prop :=
  (∀ i, 0 ≤ i → i < m → 1 ≤ mat (ν.2 34) i ∧ mat (ν.2 34) i < mat (ν.2 35) i ∧ mat (ν.2 35) i < k) ∧
  (∀ i, 0 ≤ i → i + 1 < m → mat (ν.2 35) i < mat (ν.2 34) (i + 1) ∧ mat (ν.2 36) i ≤ mat (ν.2 36) (i + 1)) ∧
  (∀ i, 0 ≤ i → i < m → -1 ≤ mat (ν.2 36) i ∧ mat (ν.2 36) i < gM ∧ (gM = 0 ∨ 0 ≤ mat (ν.2 36) i) ∧ (0 ≤ mat (ν.2 36) i → 1 ≤ mat (ν.2 40) (mat (ν.2 36) i) ∧ mat (ν.2 40) (mat (ν.2 36) i) < mat (ν.2 34) i)) ∧
  (∀ i, 0 ≤ i → i + 1 < m → mat (ν.2 36) i < mat (ν.2 36) (i + 1) → mat (ν.2 35) i < mat (ν.2 40) (mat (ν.2 36) (i + 1))) ∧
  (∀ g, 0 ≤ g → g < gC → 1 ≤ mat (ν.2 40) g ∧ mat (ν.2 40) g < n ∧ 1 ≤ mat (ν.2 41) g ∧ mat (ν.2 41) g < n) ∧
  (0 < gM → 1 ≤ mat (ν.2 40) (gM - 1) ∧ mat (ν.2 40) (gM - 1) < k) ∧
  (1 ≤ m → mat (ν.2 36) (m - 1) < gM - 1 → mat (ν.2 35) (m - 1) < mat (ν.2 40) (gM - 1))
def FRl (ν : mS) : Prop := (ν.2 34).length = 20 ∧ (ν.2 35).length = 20 ∧ (ν.2 36).length = 20 ∧ (ν.2 40).length = 20 ∧ (ν.2 41).length = 20
def FR (σ : cS) (ν : mS) (e : Nat) (n k m gC gM : Int) : Prop :=
  (rowIs (σ.1 (e + 12)) (ν.2 34) 0 m ∧ rowIs (σ.1 (e + 14)) (ν.2 35) 0 m ∧ rowIs (σ.1 (e + 16)) (ν.2 36) 0 m ∧ ((σ.1 (e + 18)).length : Int) = m ∧ ((σ.1 (e + 20)).length : Int) = m) ∧
  (rowIs (σ.1 (e + 22)) (ν.2 40) 0 gC ∧ rowIs (σ.1 (e + 24)) (ν.2 41) 0 gC ∧ ((σ.1 (e + 26)).length : Int) = gC ∧ ((σ.1 (e + 28)).length : Int) = gC) ∧
  (ν.1 33 = m ∧ ν.1 39 = gM ∧ 0 ≤ m ∧ 0 ≤ gC ∧ 2 * m + 2 * gC + (gM - gC) ≤ k - 1 ∧ gC ≤ gM ∧ gM ≤ gC + 1) ∧ FRl ν ∧ ORD ν n k m gC gM ∧ (∀ g, 0 ≤ g → g < gC → rat (σ.1 (e + 26)) g = cntg (ν.2 36) g m.toNat)
/-- the tags, and where one stands among them -/
def FT (σ : cS) (e : Nat) (tg : List Int) (n k : Int) : Prop := σ.2.1 e 11 = k ∧ rowIs (σ.1 (e + 1 + 1)) tg 0 n
theorem mAdd_eq {σ : cS} {e : Nat} {f j g m : Int} (he : kd e = 0) (h : ((σ.1 (e + 12)).length : Int) = m ∧ ((σ.1 (e + 14)).length : Int) = m ∧ ((σ.1 (e + 16)).length : Int) = m ∧ ((σ.1 (e + 18)).length : Int) = m ∧ ((σ.1 (e + 20)).length : Int) = m) (hm : m < 19) :
    (mAdd σ e f j g).1 = upR (upR (upR (upR (upR σ.1 (e + 12) (σ.1 (e + 12) ++ [f])) (e + 14) (σ.1 (e + 14) ++ [j])) (e + 16) (σ.1 (e + 16) ++ [g])) (e + 18) (σ.1 (e + 18) ++ [0])) (e + 20) (σ.1 (e + 20) ++ [-1]) ∧ (mAdd σ e f j g).2 = (upI σ.2.1 e 11 (j + 1), σ.2.2) := by
  obtain ⟨h1, h2, h3, h4, h5⟩ := h
  have k1 : (σ.1 (e + 12)).length < 19 := by omega
  have k2 : (σ.1 (e + 14)).length < 19 := by omega
  have k3 : (σ.1 (e + 16)).length < 19 := by omega
  have k4 : (σ.1 (e + 18)).length < 19 := by omega
  have k5 : (σ.1 (e + 20)).length < 19 := by omega
  constructor
  · simp [mAdd, cI, cadd, upR, cap0_12 he, cap0_14 he, cap0_16 he, cap0_18 he, cap0_20 he, k1, k2, k3, k4, k5]
  · simp [mAdd, cI, cadd]
/-- a message more -/
theorem FR.msg {σ : cS} {ν : mS} {e : Nat} {n k m gC gM J : Int} (he : kd e = 0) (h : FR σ ν e n k m gC gM) (hm : m < 19) (hk : 1 ≤ k) (hkJ : k < J) (hJ : J < n) (hg : gC + 1 = gM ∨ gC = 0 ∧ gM = 0) :
    FR (mAdd (cI σ e 11 J) e k J (gM - 1)) (mar (mfl (mar (mar ν 34 m k) 36 m (gM - 1)) 33 (m + 1)) 35 m J) e n (J + 1) (m + 1) gC gM := by
  obtain ⟨⟨r1, r2, r3, r4, r5⟩, ⟨g1, g2, g3, g4⟩, ⟨c1, c2, c3, c4, c5, c6, c7⟩, ⟨l1, l2, l3, l4, l5⟩, ⟨o1, o2, o3, o4, o5, o6, o7⟩, ct⟩ := h
  have ea := (mAdd_eq (σ := cI σ e 11 J) (f := k) (j := J) (g := gM - 1) he ⟨r1.1, r2.1, r3.1, r4, r5⟩ hm).1
  have s12 : (mAdd (cI σ e 11 J) e k J (gM - 1)).1 (e + 12) = σ.1 (e + 12) ++ [k] := by rw [ea]; simp [upR, cI]
  have s14 : (mAdd (cI σ e 11 J) e k J (gM - 1)).1 (e + 14) = σ.1 (e + 14) ++ [J] := by rw [ea]; simp [upR, cI]
  have s16 : (mAdd (cI σ e 11 J) e k J (gM - 1)).1 (e + 16) = σ.1 (e + 16) ++ [gM - 1] := by rw [ea]; simp [upR, cI]
  have s18 : (mAdd (cI σ e 11 J) e k J (gM - 1)).1 (e + 18) = σ.1 (e + 18) ++ [0] := by rw [ea]; simp [upR, cI]
  have s20 : (mAdd (cI σ e 11 J) e k J (gM - 1)).1 (e + 20) = σ.1 (e + 20) ++ [-1] := by rw [ea]; simp [upR, cI]
  have sx : ∀ r, e + 22 ≤ r → (mAdd (cI σ e 11 J) e k J (gM - 1)).1 r = σ.1 r := fun r hr => by rw [ea]; simp [upR, cI, show r ≠ e + 12 by omega, show r ≠ e + 14 by omega, show r ≠ e + 16 by omega, show r ≠ e + 18 by omega, show r ≠ e + 20 by omega]
  have a34 : (mar (mfl (mar (mar ν 34 m k) 36 m (gM - 1)) 33 (m + 1)) 35 m J).2 34 = (ν.2 34).set m.toNat k := by simp [mar, mfl, upF]
  have a35 : (mar (mfl (mar (mar ν 34 m k) 36 m (gM - 1)) 33 (m + 1)) 35 m J).2 35 = (ν.2 35).set m.toNat J := by simp [mar, mfl, upF]
  have a36 : (mar (mfl (mar (mar ν 34 m k) 36 m (gM - 1)) 33 (m + 1)) 35 m J).2 36 = (ν.2 36).set m.toNat (gM - 1) := by simp [mar, mfl, upF]
  have a40 : (mar (mfl (mar (mar ν 34 m k) 36 m (gM - 1)) 33 (m + 1)) 35 m J).2 40 = ν.2 40 := by simp [mar, mfl, upF]
  have a41 : (mar (mfl (mar (mar ν 34 m k) 36 m (gM - 1)) 33 (m + 1)) 35 m J).2 41 = ν.2 41 := by simp [mar, mfl, upF]
  have b33 : (mar (mfl (mar (mar ν 34 m k) 36 m (gM - 1)) 33 (m + 1)) 35 m J).1 33 = m + 1 := by simp [mar, mfl, upF]
  have b39 : (mar (mfl (mar (mar ν 34 m k) 36 m (gM - 1)) 33 (m + 1)) 35 m J).1 39 = ν.1 39 := by simp [mar, mfl, upF]
  have i34 : ∀ i, 0 ≤ i → i < m → mat ((ν.2 34).set m.toNat k) i = mat (ν.2 34) i := fun i a b => mat_set_ne (by omega)
  have i35 : ∀ i, 0 ≤ i → i < m → mat ((ν.2 35).set m.toNat J) i = mat (ν.2 35) i := fun i a b => mat_set_ne (by omega)
  have i36 : ∀ i, 0 ≤ i → i < m → mat ((ν.2 36).set m.toNat (gM - 1)) i = mat (ν.2 36) i := fun i a b => mat_set_ne (by omega)
  have m34 : mat ((ν.2 34).set m.toNat k) m = k := mat_set (by omega)
  have m35 : mat ((ν.2 35).set m.toNat J) m = J := mat_set (by omega)
  have m36 : mat ((ν.2 36).set m.toNat (gM - 1)) m = gM - 1 := mat_set (by omega)
  have ad : ∀ {row arr : List Int} {v : Int}, arr.length = 20 → rowIs row arr 0 m → rowIs (row ++ [v]) (arr.set m.toNat v) 0 (m + 1) := fun {row arr v} hl hr => by
    have := rowIs_add (v := v) hr (by omega) (by omega)
    rw [Int.zero_add] at this; exact this
  unfold FR FRl ORD
  rw [s12, s14, s16, s18, s20, sx (e + 22) (by omega), sx (e + 24) (by omega), sx (e + 26) (by omega), sx (e + 28) (by omega), a34, a35, a36, a40, a41, b33, b39]
  refine ⟨⟨ad l1 r1, ad l2 r2, ad l3 r3, by rw [List.length_append]; simp; omega, by rw [List.length_append]; simp; omega⟩, ⟨g1, g2, g3, g4⟩, ⟨rfl, c2, by omega, c4, by omega, c6, c7⟩, ⟨by rw [List.length_set]; exact l1, by rw [List.length_set]; exact l2, by rw [List.length_set]; exact l3, l4, l5⟩, ⟨fun i a b => ?_, fun i a b => ?_, fun i a b => ?_, fun i a b => ?_, o5, fun q => ?_, fun q => ?_⟩, fun g a b => ?_⟩
  · by_cases ei : i = m
    · subst ei; rw [m34, m35]; omega
    · have := o1 i a (by omega)
      rw [i34 i a (by omega), i35 i a (by omega)]; omega
  · rw [i35 i a (by omega), i36 i a (by omega)]
    by_cases ei : i + 1 = m
    · rw [ei, m34, m36]
      have x1 := o1 i a (by omega)
      have x3 := o3 i a (by omega)
      omega
    · rw [i34 _ (by omega) (by omega), i36 _ (by omega) (by omega)]; exact o2 i a (by omega)
  · by_cases ei : i = m
    · subst ei
      rw [m36, m34]
      refine ⟨by omega, by omega, by omega, fun q => ?_⟩
      have := o6 (by omega)
      omega
    · rw [i36 i a (by omega), i34 i a (by omega)]; exact o3 i a (by omega)
  · rw [i35 i a (by omega), i36 i a (by omega)]
    by_cases ei : i + 1 = m
    · rw [ei, m36]
      intro q
      have := o7 (by omega)
      rw [show m - 1 = i by omega] at this
      exact this q
    · rw [i36 _ (by omega) (by omega)]; exact o4 i a (by omega)
  · have := o6 q; omega
  · rw [show m + 1 - 1 = m by omega, m36]; intro z; omega
  · rw [show (m + 1).toNat = m.toNat + 1 by omega, cntg, show ((m.toNat : Nat) : Int) = m by omega, m36, if_neg (by omega), ct g a b]
    rw [cntg_congr (a := (ν.2 36).set m.toNat (gM - 1)) (b := ν.2 36) m.toNat (fun i a b => i36 i a (by omega))]; omega
/-- a group begins -/
theorem FR.ung {σ : cS} {ν : mS} {e : Nat} {n k m g : Int} (h : FR σ ν e n k m g g) (hk : 1 ≤ k) (hg : g < 20) (hm0 : g = 0 → m = 0) : FR (cI σ e 11 (k + 1)) (mfl (mar ν 40 g k) 39 (g + 1)) e n (k + 1) m g (g + 1) := by
  obtain ⟨r, ⟨g1, g2, g3, g4⟩, ⟨c1, c2, c3, c4, c5, c6, c7⟩, ⟨l1, l2, l3, l4, l5⟩, ⟨o1, o2, o3, o4, o5, o6, o7⟩, ct⟩ := h
  have a40 : (mfl (mar ν 40 g k) 39 (g + 1)).2 40 = (ν.2 40).set g.toNat k := by simp [mar, mfl, upF]
  have i40 : ∀ i, 0 ≤ i → i < g → mat ((ν.2 40).set g.toNat k) i = mat (ν.2 40) i := fun i a b => mat_set_ne (by omega)
  have m40 : mat ((ν.2 40).set g.toNat k) g = k := mat_set (by omega)
  refine ⟨r, ⟨?_, g2, g3, g4⟩, ⟨c1, rfl, c3, c4, by omega, by omega, by omega⟩, ⟨l1, l2, l3, ?_, l5⟩, ⟨fun i a b => ?_, o2, fun i a b => ?_, fun i a b q => ?_, fun i a b => ?_, fun q => ?_, fun q z => ?_⟩, ct⟩
  · rw [a40]; exact rowIs_out g1 (by omega) (by omega) (by omega)
  · rw [a40, List.length_set]; exact l4
  · have := o1 i a b; exact ⟨this.1, this.2.1, by show mat (ν.2 35) i < k + 1; omega⟩
  · rw [a40]
    have x := o3 i a b
    refine ⟨x.1, by show mat (ν.2 36) i < g + 1; omega, ?_, fun q => ?_⟩
    · show g + 1 = 0 ∨ 0 ≤ mat (ν.2 36) i
      omega
    · have q' : 0 ≤ mat (ν.2 36) i := q
      show 1 ≤ mat ((ν.2 40).set g.toNat k) (mat (ν.2 36) i) ∧ mat ((ν.2 40).set g.toNat k) (mat (ν.2 36) i) < mat (ν.2 34) i
      rw [i40 _ q' (by omega)]; exact x.2.2.2 q'
  · rw [a40]
    have x := o3 (i + 1) (by omega) b
    have y := o3 i a (by omega)
    show mat (ν.2 35) i < mat ((ν.2 40).set g.toNat k) (mat (ν.2 36) (i + 1))
    have q' : mat (ν.2 36) i < mat (ν.2 36) (i + 1) := q
    rw [i40 _ (by omega) (by omega)]; exact o4 i a b q
  · rw [a40, i40 i a b]; exact o5 i a b
  · rw [a40, show g + 1 - 1 = g by omega, m40]; omega
  · rw [a40, show g + 1 - 1 = g by omega, m40]
    have := o1 (m - 1) (by omega) (by omega)
    exact this.2.2
/-- a group ends -/
theorem FR.une {σ : cS} {ν : mS} {e : Nat} {n k m g b : Int} (he : kd e = 0) (h : FR σ ν e n k m g (g + 1)) (hk : 1 ≤ k) (hkn : k < n) (hg : g < 9) (hb : 0 ≤ b ∧ b ≤ m) (hb1 : ∀ i, 0 ≤ i → i < b → mat (ν.2 36) i < g) (hb2 : ∀ i, b ≤ i → i < m → mat (ν.2 36) i = g) :
    FR (cI (cadd (cadd (cadd (cadd σ (e + 22) (mat (ν.2 40) g)) (e + 24) k) (e + 26) (m - b)) (e + 28) 0) e 11 (k + 1)) (mar ν 41 g k) e n (k + 1) m (g + 1) (g + 1) := by
  obtain ⟨⟨r1, r2, r3, r4, r5⟩, ⟨g1, g2, g3, g4⟩, ⟨c1, c2, c3, c4, c5, c6, c7⟩, ⟨l1, l2, l3, l4, l5⟩, ⟨o1, o2, o3, o4, o5, o6, o7⟩, ct⟩ := h
  have k1 : (σ.1 (e + 22)).length < 9 := by have := g1.1; omega
  have k2 : (σ.1 (e + 24)).length < 9 := by have := g2.1; omega
  have k3 : (σ.1 (e + 26)).length < 9 := by omega
  have k4 : (σ.1 (e + 28)).length < 9 := by omega
  have ea : (cI (cadd (cadd (cadd (cadd σ (e + 22) (mat (ν.2 40) g)) (e + 24) k) (e + 26) (m - b)) (e + 28) 0) e 11 (k + 1)).1 = upR (upR (upR (upR σ.1 (e + 22) (σ.1 (e + 22) ++ [mat (ν.2 40) g])) (e + 24) (σ.1 (e + 24) ++ [k])) (e + 26) (σ.1 (e + 26) ++ [m - b])) (e + 28) (σ.1 (e + 28) ++ [0]) := by
    simp [cI, cadd, upR, cap0_22 he, cap0_24 he, cap0_26 he, cap0_28 he, k1, k2, k3, k4]
  have a41 : (mar ν 41 g k).2 41 = (ν.2 41).set g.toNat k := by simp [mar, upF]
  have i41 : ∀ i, 0 ≤ i → i < g → mat ((ν.2 41).set g.toNat k) i = mat (ν.2 41) i := fun i a b => mat_set_ne (by omega)
  have m41 : mat ((ν.2 41).set g.toNat k) g = k := mat_set (by omega)
  have x6 := o6 (by omega)
  rw [show g + 1 - 1 = g by omega] at x6
  unfold FR FRl ORD
  rw [ea, a41]
  refine ⟨⟨?_, ?_, ?_, ?_, ?_⟩, ⟨?_, ?_, ?_, ?_⟩, ⟨c1, c2, c3, by omega, by omega, by omega, by omega⟩, ⟨l1, l2, l3, l4, by rw [List.length_set]; exact l5⟩, ⟨fun i a b => ?_, o2, o3, o4, fun i a b => ?_, fun q => ?_, o7⟩, fun i a c => ?_⟩
  · simp [upR]; exact r1
  · simp [upR]; exact r2
  · simp [upR]; exact r3
  · simp [upR]; exact r4
  · simp [upR]; exact r5
  · simp [upR]; exact rowIs_ext g1 rfl
  · simp [upR]
    have := rowIs_add (v := k) g2 (by omega) (by omega)
    rw [Int.zero_add] at this; exact this
  · simp [upR]; omega
  · simp [upR]; omega
  · have := o1 i a b; exact ⟨this.1, this.2.1, by show mat (ν.2 35) i < k + 1; omega⟩
  · by_cases ei : i = g
    · subst ei; rw [m41]; exact ⟨x6.1, by show mat (ν.2 40) i < n; omega, hk, hkn⟩
    · rw [i41 i a (by omega)]; exact o5 i a (by omega)
  · have := o6 q; exact ⟨this.1, by show mat (ν.2 40) (g + 1 - 1) < k + 1; omega⟩
  · have e26 : upR (upR (upR (upR σ.1 (e + 22) (σ.1 (e + 22) ++ [mat (ν.2 40) g])) (e + 24) (σ.1 (e + 24) ++ [k])) (e + 26) (σ.1 (e + 26) ++ [m - b])) (e + 28) (σ.1 (e + 28) ++ [0]) (e + 26) = σ.1 (e + 26) ++ [m - b] := by simp [upR]
    rw [e26]
    show _ = cntg (ν.2 36) i m.toNat
    by_cases ei : i = g
    · subst ei
      rw [rat_last (by omega), cntg_split b hb.1 m.toNat (by omega) (fun j p q => by have := hb1 j p q; omega) (fun j p q => hb2 j p (by omega))]; omega
    · rw [rat_app a (by omega)]; exact ct i a (by omega)
