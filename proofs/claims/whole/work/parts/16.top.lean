/-! the start: what the Statement gives of the start is what J relies on -/
abbrev YL : jM := (yL_law, cL_law, 7, some .boolean)
/-- the first heap: the script at position 0 -/
def jh0 (xs : List Int32) : jH := fun k => if k = 0 then (20, xs.map .int) else (30, [])
theorem top_arr {args : Array Value} {s : State} {ty : FieldType} (h : (Cond.arrayClass ty).before args s = true) : ∃ c, ArrOfT s c ty ∧ s.vm.findClass ("[" ++ ty.toString) = some c := by
  obtain ⟨c, k, comp, h1, h2, h3⟩ := Cond.arrayClass_spec h
  exact ⟨c, fun n z => ⟨fun q hq => (by cases hq), k, h2, comp, h3⟩, h1⟩
theorem top_ki {args : Array Value} {s : State} (hts : ∀ w ∈ lw_tbl, w.before args s = true) : ∃ G : jG, va_K G.1 vwCl (jtys G) s := by
  obtain ⟨c0, i0, k0⟩ := u_known (C := RX0) (T := TX0) (N := 12) (n := 12) hts jw0 (hts (.instantiable RX0 12) (by decide +kernel))
  obtain ⟨c1, i1, k1⟩ := u_known (C := RX1) (T := TX1) (N := 1) (n := 1) hts jw1 (hts (.instantiable RX1 1) (by decide +kernel))
  obtain ⟨c2, i2, k2⟩ := u_known (C := RX2) (T := TX2) (N := 5) (n := 5) hts jw2 (hts (.instantiable RX2 5) (by decide +kernel))
  obtain ⟨c3, i3, k3⟩ := u_known (C := RX3) (T := TX3) (N := 2) (n := 2) hts jw3 (hts (.instantiable RX3 2) (by decide +kernel))
  obtain ⟨c4, i4, k4⟩ := u_known (C := RX4) (T := TX4) (N := 9) (n := 9) hts jw4 (hts (.instantiable RX4 9) (by decide +kernel))
  obtain ⟨c5, i5, k5⟩ := u_known (C := RX5) (T := TX5) (N := 6) (n := 6) hts jw5 (hts (.instantiable RX5 6) (by decide +kernel))
  obtain ⟨c6, i6, k6⟩ := u_known (C := RX6) (T := TX6) (N := 8) (n := 8) hts jw6 (hts (.instantiable RX6 8) (by decide +kernel))
  obtain ⟨c7, i7, k7⟩ := u_known (C := RX7) (T := TX7) (N := 53) (n := 53) hts jw7 (hts (.instantiable RX7 53) (by decide +kernel))
  obtain ⟨aI, hI1, hI2⟩ := top_arr (hts (.arrayClass .int) (by decide +kernel))
  obtain ⟨aL, hL1, hL2⟩ := top_arr (hts (.arrayClass .long) (by decide +kernel))
  obtain ⟨aZ, hZ1, hZ2⟩ := top_arr (hts (.arrayClass .boolean) (by decide +kernel))
  obtain ⟨comp, aT, kT, t1, t2, t3, t4, t5⟩ := Cond.arrayOver_spec (hts (.arrayOver (.object "InterchangeDesk$Table")) (by decide +kernel))
  have hT1 : ArrOfT s aT (.object "InterchangeDesk$Table") := fun n z => ⟨fun q hq => (by cases hq), kT, t3, comp, t4⟩
  refine ⟨((fun k => match k with | 0 => c0 | 1 => c1 | 2 => c2 | 3 => c3 | 4 => c4 | 5 => c5 | 6 => c6 | _ => c7, fun k => match k with | 0 => i0 | 1 => i1 | 2 => i2 | 3 => i3 | 4 => i4 | 5 => i5 | 6 => i6 | _ => i7), fun k => match k with | 10 => aI | 11 => aL | 12 => aZ | _ => aT), ?_, ?_⟩
  · intro k q hq
    match k, hq with
    | 0, hq => cases hq; exact k0
    | 1, hq => cases hq; exact k1
    | 2, hq => cases hq; exact k2
    | 3, hq => cases hq; exact k3
    | 4, hq => cases hq; exact k4
    | 5, hq => cases hq; exact k5
    | 6, hq => cases hq; exact k6
    | 7, hq => cases hq; exact k7
    | k + 8, hq => simp [vwCl] at hq
  · intro k q hq
    match k, hq with
    | 0, hq => cases hq; exact ⟨hI1, hI2⟩
    | 1, hq => cases hq; exact ⟨hL1, hL2⟩
    | 2, hq => cases hq; exact ⟨hZ1, hZ2⟩
    | 3, hq => cases hq; exact ⟨hT1, kT, comp, t3, t4, t1, t5⟩
    | k + 4, hq => simp [jtys] at hq
theorem top_str {args : Array Value} {s : State} {o tx : String} {k : Nat} (h : (Cond.stringRef o k tx).before args s = true) : ∃ sa, vk_R o k tx sa s := by
  cases hc : s.vm.findClass o with
  | none => simp [Cond.before, Cond.holds, Cond.value, hc] at h
  | some cur =>
    obtain ⟨_, _, _, a, _, _, _, _, _, h6⟩ := Cond.stringRef_spec hc h
    exact ⟨a, vk_R.of h h6⟩
theorem top_jg {b : Nat} {s : State} (hts : ∀ w ∈ lw_tbl, w.before #[Value.ref b] s = true) (hgv : (Jvm.Cond.and given_1 narrow_1).before #[Value.ref b] s = true) : ∃ G : jG, jg G (fun q => s.heap.size ≤ q) s := by
  obtain ⟨G, hK⟩ := top_ki hts
  have hs := flat_of_before _ hgv
  have hn : ∀ a : Nat, a < s.heap.size → ¬ (fun q => s.heap.size ≤ q) a := fun a h1 h2 => Nat.not_lt.mpr h2 h1
  refine ⟨G, fun w hw hg args => word_at (State.WarmedH.refl s) (good_of_word hg) (hts w hw), fun a i x b hm => va_Nw.of rfl (hts _ hm), fun o k tx hm => top_str (hts _ hm), ?_, ?_, hK, ?_, ?_, fun C T hm => va_Nw.of rfl (hts _ hm), fun x hm => va_Nw.of rfl (hts _ hm), va_AO.of (hts _ (by decide +kernel))⟩
  · exact vx_Zqof (hts (.laysStatic Bundle.tN "UNASSIGNED_STACK" Bundle.steD) (by decide +kernel)) (hts (.initialized Bundle.tN) (by decide +kernel)) (hs (.isRef (.static Bundle.tN "UNASSIGNED_STACK" Bundle.steD)) (by decide +kernel)) hn
  · exact vx_Zqof (hts (.laysStatic Bundle.tN "SUPPRESSED_SENTINEL" Bundle.listD) (by decide +kernel)) (hts (.initialized Bundle.tN) (by decide +kernel)) (hs (.isRef (.static Bundle.tN "SUPPRESSED_SENTINEL" Bundle.listD)) (by decide +kernel)) hn
  · exact va_Nc.of (hs (.not (.castable "java/lang/IllegalStateException" "java/lang/IllegalArgumentException")) (by decide +kernel))
  · exact va_Nc.of (hs (.not (.castable "java/lang/UnsupportedOperationException" "java/lang/IllegalArgumentException")) (by decide +kernel))
