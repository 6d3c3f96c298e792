/-! ints as integers: iz is Int32.ofInt; sums and products always go through, comparisons inside the range -/
abbrev iz (a : Int) : Int32 := Int32.ofInt a
abbrev vi (a : Int) : Value := .int (Int32.ofInt a)
abbrev rg (a : Int) : Prop := -2147483648 ≤ a ∧ a < 2147483648
theorem iz_toInt {a : Int} (h : rg a) : (iz a).toInt = a := by
  rw [Int32.toInt_ofInt]
  have h : rg a := h
  have hs : ((Int32.size : Nat) : Int) = 4294967296 := by decide
  exact Int.bmod_eq_of_le (by rw [hs]; omega) (by rw [hs]; omega)
theorem iz_add (a b : Int) : iz a + iz b = iz (a + b) := by rw [iz, iz, iz, Int32.ofInt_add]
theorem iz_sub (a b : Int) : iz a - iz b = iz (a - b) := by rw [iz, iz, iz, Int32.ofInt_sub]
theorem iz_mul (a b : Int) : iz a * iz b = iz (a * b) := by rw [iz, iz, iz, Int32.ofInt_mul]
theorem iz_eq {a b : Int} (ha : rg a) (hb : rg b) : iz a = iz b ↔ a = b := by
  rw [← Int32.toInt_inj, iz_toInt ha, iz_toInt hb]
theorem iz_lt {a b : Int} (ha : rg a) (hb : rg b) : iz a < iz b ↔ a < b := by
  rw [Int32.lt_iff_toInt_lt, iz_toInt ha, iz_toInt hb]
theorem iz_le {a b : Int} (ha : rg a) (hb : rg b) : iz a ≤ iz b ↔ a ≤ b := by
  rw [Int32.le_iff_toInt_le, iz_toInt ha, iz_toInt hb]
theorem iz_nI (n : Nat) : nI n = iz (n : Int) := by
  rw [nI, iz, Int32.ofInt_eq_ofNat]
theorem iz_clamp {a : Int} (h0 : 0 ≤ a) (h : a < 2147483648) : (iz a).toNatClampNeg = a.toNat := by
  rw [Int32.toNatClampNeg, iz_toInt ⟨by omega, h⟩]
theorem iz_0 : iz 0 = 0 := by decide
theorem iz_nn {a : Int} (h0 : 0 ≤ a) (h : a < 2147483648) : ¬ iz a < 0 := by
  rw [← iz_0, iz_lt ⟨by omega, h⟩ ⟨by decide, by decide⟩]; omega
theorem iz_div {a b : Int} (ha : 0 ≤ a) (ha2 : a < 2147483648) (hb : 0 < b) (hb2 : b < 2147483648) : iz a / iz b = iz (a / b) := by
  have e1 : iz a = nI a.toNat := by rw [iz_nI]; congr 1; omega
  have e2 : iz b = nI b.toNat := by rw [iz_nI]; congr 1; omega
  rw [e1, e2, pk_div (by omega) (by omega) (by omega), iz_nI]
  congr 1
  rw [Int.natCast_ediv]
  congr 1 <;> omega
theorem iz_rem {a b : Int} (ha : 0 ≤ a) (ha2 : a < 2147483648) (hb : 0 < b) (hb2 : b < 2147483648) : iz a - iz a / iz b * iz b = iz (a % b) := by
  rw [iz_div ha ha2 hb hb2, iz_mul, iz_sub]
  congr 1
  have := Int.emod_def a b
  rw [Int.mul_comm] at this
  exact this.symm
