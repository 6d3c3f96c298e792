theorem bv_iz (a : Int) : (Int32.ofInt a).toBitVec = BitVec.ofInt 32 a := rfl
theorem iz_and255 (a : Int) : Int32.ofInt a &&& Int32.ofInt 255 = Int32.ofInt (a % 256) := by
  rw [← Int32.toBitVec_inj, Int32.toBitVec_and, bv_iz, bv_iz, bv_iz]
  apply BitVec.eq_of_toNat_eq
  rw [BitVec.toNat_and, BitVec.toNat_ofInt, BitVec.toNat_ofInt, BitVec.toNat_ofInt]
  have e : ((255 : Int) % ((2 ^ 32 : Nat) : Int)).toNat = 2 ^ 8 - 1 := by decide
  rw [e, Nat.and_two_pow_sub_one_eq_mod]
  have e2 : ((2 ^ 32 : Nat) : Int) = 4294967296 := by decide
  rw [e2]; omega
theorem iz_ushr (a : Int) (k : Nat) (hk : k < 32) : ((Int32.ofInt a).toUInt32 >>> ((Int32.ofInt k).toUInt32 &&& Int32.toUInt32 31)).toInt32 = Int32.ofInt ((a % 4294967296) / (2 ^ k : Nat)) := by
  have e0 : ((Int32.ofInt k).toUInt32 &&& Int32.toUInt32 31) = UInt32.ofNat k := by
    have : ∀ k : Fin 32, ((Int32.ofInt (k : Nat)).toUInt32 &&& Int32.toUInt32 31) = UInt32.ofNat k := by decide
    exact this ⟨k, hk⟩
  rw [e0, ← Int32.toBitVec_inj, bv_iz]
  apply BitVec.eq_of_toNat_eq
  show ((Int32.ofInt a).toUInt32 >>> UInt32.ofNat k).toNat = _
  rw [UInt32.toNat_shiftRight, BitVec.toNat_ofInt]
  have e2 : ((2 ^ 32 : Nat) : Int) = 4294967296 := by decide
  have e3 : (Int32.ofInt a).toUInt32.toNat = (a % 4294967296).toNat := by
    show (BitVec.ofInt 32 a).toNat = _
    rw [BitVec.toNat_ofInt, e2]
  have e4 : (UInt32.ofNat k).toNat % 32 = k := by
    rw [UInt32.toNat_ofNat']
    omega
  rw [e3, e4, e2, Nat.shiftRight_eq_div_pow]
  have h0 : 0 ≤ a % 4294967296 := by omega
  obtain ⟨u, hu⟩ := Int.eq_ofNat_of_zero_le h0
  have hlt : a % 4294967296 < 4294967296 := by omega
  rw [hu] at hlt ⊢
  rw [Int.toNat_natCast, ← Int.natCast_ediv]
  have h1 : u / 2 ^ k ≤ u := Nat.div_le_self _ _
  generalize u / 2 ^ k = q at *
  omega
theorem iz_sshr {a : Int} (h : rg a) (k : Nat) (hk : k < 32) (hr : rg (a / (2 ^ k : Nat))) : Int32.ofInt a >>> (Int32.ofInt k &&& 31) = Int32.ofInt (a / (2 ^ k : Nat)) := by
  have e0 : (Int32.ofInt k &&& 31) = Int32.ofNat k := by
    have : ∀ k : Fin 32, (Int32.ofInt (k : Nat) &&& 31) = Int32.ofNat k := by decide
    exact this ⟨k, hk⟩
  rw [e0, ← Int32.toInt_inj, iz_toInt hr, Int32.toInt]
  rw [Int32.toBitVec_shiftRight]
  have e1 : (Int32.ofNat k).toBitVec.smod 32 = BitVec.ofNat 32 k := by
    have : ∀ k : Fin 32, (Int32.ofNat k).toBitVec.smod 32 = BitVec.ofNat 32 k := by decide
    exact this ⟨k, hk⟩
  rw [e1]
  show ((Int32.ofInt a).toBitVec.sshiftRight (BitVec.ofNat 32 k).toNat).toInt = _
  rw [BitVec.toInt_sshiftRight]
  have e5 : (BitVec.ofNat 32 k).toNat = k := by rw [BitVec.toNat_ofNat]; omega
  rw [e5, Int.shiftRight_eq_div_pow]
  congr 1
  exact iz_toInt h
section CS9
variable {S : Type} {inv : jH → S → Prop} {own : Nat → Prop} {l : Launch} {G : jG} {Y : jY} {d bc bs pc : Nat} {ls : List (Option Value)} {st : List Value} {σ : S} {P : jO → S → Prop}
theorem C_and255 {a : Int} (hd : decode Y.1.2.1 pc = .ok (.iand, 1)) (k : CJ inv own l G Y d bc bs (pc + 1) ls (vi (a % 256) :: st) σ P) : CJ inv own l G Y d bc bs pc ls (vi 255 :: vi a :: st) σ P :=
  C_iand hd (by rw [iz_and255]; exact k)
theorem C_ushr8 {a : Int} (hd : decode Y.1.2.1 pc = .ok (.iushr, 1)) (k : CJ inv own l G Y d bc bs (pc + 1) ls (vi (a % 4294967296 / 256) :: st) σ P) : CJ inv own l G Y d bc bs pc ls (vi 8 :: vi a :: st) σ P :=
  C_iushr hd (iz_ushr a 8 (by decide)) k
theorem C_ushr16 {a : Int} (hd : decode Y.1.2.1 pc = .ok (.iushr, 1)) (k : CJ inv own l G Y d bc bs (pc + 1) ls (vi (a % 4294967296 / 65536) :: st) σ P) : CJ inv own l G Y d bc bs pc ls (vi 16 :: vi a :: st) σ P :=
  C_iushr hd (iz_ushr a 16 (by decide)) k
theorem C_ushr24 {a : Int} (hd : decode Y.1.2.1 pc = .ok (.iushr, 1)) (k : CJ inv own l G Y d bc bs (pc + 1) ls (vi (a % 4294967296 / 16777216) :: st) σ P) : CJ inv own l G Y d bc bs pc ls (vi 24 :: vi a :: st) σ P :=
  C_iushr hd (iz_ushr a 24 (by decide)) k
theorem C_sshr8 {a : Int} (hd : decode Y.1.2.1 pc = .ok (.ishr, 1)) (h : rg a) (k : CJ inv own l G Y d bc bs (pc + 1) ls (vi (a / 256) :: st) σ P) : CJ inv own l G Y d bc bs pc ls (vi 8 :: vi a :: st) σ P :=
  C_ishr hd (by have e := iz_sshr h 8 (by decide) (by have h : rg a := h; show rg (a / 256); omega); exact e ▸ k)
theorem C_sshr16 {a : Int} (hd : decode Y.1.2.1 pc = .ok (.ishr, 1)) (h : rg a) (k : CJ inv own l G Y d bc bs (pc + 1) ls (vi (a / 65536) :: st) σ P) : CJ inv own l G Y d bc bs pc ls (vi 16 :: vi a :: st) σ P :=
  C_ishr hd (by have e := iz_sshr h 16 (by decide) (by have h : rg a := h; show rg (a / 65536); omega); exact e ▸ k)
end CS9
