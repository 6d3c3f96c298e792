/-- the same while the tables' array is being filled -/
def T5 (A : List Value) (k : Nat) : Nat × List Value := if k = 5 then (13, A) else T0 k
theorem T5_ne {A : List Value} {k : Nat} (h : k ≠ 5) : T5 A k = T0 k := by simp [T5, h]
theorem T5_5 {A : List Value} : T5 A 5 = (13, A) := by simp [T5]
def dK (h : jH) : jK := fun o n' h' => o = .inl none ∧ n' = 116 ∧ (∀ k, 1 ≤ k → k < 116 → h' k = T0 k) ∧ h' 0 = h 0
theorem ini6 {l : Launch} {G : jG} {d : Nat} {h : jH} (hd : 4 ≤ d) (hh : h 1 = (6, [.null, .null, .null, .null, .null, .null, .int 0, .int 0])) : jJ l G (Yx mX6_init) d 114 4632 2 0 [some (.ref 1), none] [] h (dK h) := by
  refine J_aload_n dX6_init_0 rfl ?_
  refine J_objInit dX6_init_1 (List.mem_of_getElem? (i := 79) (by decide +kernel)) (List.mem_of_getElem? (i := 80) (by decide +kernel)) (List.mem_of_getElem? (i := 81) (by decide +kernel)) (by omega) (Nat.le_of_ble_eq_true rfl) ?_
  suffices key : ∀ z : jH, z 1 = (6, [.null, .null, .null, .null, .null, .null, .int 0, .int 0]) → (∀ k, 1 < k → k < 2 → z k = T5 [.null, .null, .null, .null] k) → z 0 = h 0 → jJ l G (Yx mX6_init) d 114 4632 2 4 [some (.ref 1), none] [] z (dK h) from key _ hh (fun k g1 g2 => by omega) rfl
  intro h1 b1 a1 f1
  refine J_aload_n dX6_init_4 rfl ?_
  refine J_new (N := 6) (bc := 113) (bs := 4626) dX6_init_5 n_X6_9 ?_
  refine J_dup dX6_init_8 rfl ?_
  refine J_callIN (As := []) (bc := 111) (bs := 4224) (bc' := 2) (bs' := 402) (d' := 2) dX6_init_9 i_X6_11 rfl (Nat.le_of_ble_eq_true rfl) (by omega) (Nat.le_of_ble_eq_true rfl) (ini5 (p := 2) (by decide) (Nat.le_refl _) jup_same) (fun E n' h' q => by cases q.1) (fun v n' h' q => ?_)
  obtain ⟨e1, e2, qa, qb⟩ := q
  cases e1
  have e3 : n' = 5 := e2
  subst e3
  simp only [Option.toList, List.nil_append]
  refine J_putF dX6_init_12 rfl (fun q e => by cases e; rfl) f_X6_12 ((qb 1 (by omega)).trans ((jup_ne (by omega)).trans b1)) (Nat.le_of_ble_eq_true rfl) jfit_r ?_
  suffices key : ∀ z : jH, z 1 = (6, [.ref 2, .null, .null, .null, .null, .null, .int 0, .int 0]) → (∀ k, 1 < k → k < 5 → z k = T5 [.null, .null, .null, .null] k) → z 0 = h 0 → jJ l G (Yx mX6_init) d 111 4224 5 15 [some (.ref 1), none] [] z (dK h) from key _ jup_same (fun k g1 g2 => (jup_ne (by omega)).trans (rg_step a1 (fun k g1 g2 => (qa k g1 g2).trans (T5_ne (by omega)).symm) qb k g1 g2)) ((jup_ne (by omega)).trans ((qb 0 (by omega)).trans ((jup_ne (by omega)).trans f1)))
  intro h2 b2 a2 f2
  refine J_aload_n dX6_init_15 rfl ?_
  refine J_iconst (v := Int32.ofInt 4) dX6_init_16 (by decide) ?_
  refine J_anew (N := 4) (bc := 110) (bs := 4220) dX6_init_17 (List.mem_of_getElem? (i := 124) (by decide +kernel)) (by decide) (by decide) (by decide) ?_
  refine J_putF dX6_init_20 rfl (fun q e => by cases e; rfl) f_X6_18 ((jup_ne (by omega)).trans b2) (Nat.le_of_ble_eq_true rfl) jfit_a ?_
  suffices key : ∀ z : jH, z 1 = (6, [.ref 2, .ref 5, .null, .null, .null, .null, .int 0, .int 0]) → (∀ k, 1 < k → k < 6 → z k = T5 [.null, .null, .null, .null] k) → z 0 = h 0 → jJ l G (Yx mX6_init) d 110 4220 6 23 [some (.ref 1), none] [] z (dK h) from key _ jup_same (fun k g1 g2 => by by_cases e : k = 5; (subst e; rw [jup_ne (by omega), jup_same, T5_5]; rfl); (rw [jup_ne (by omega), jup_ne (by omega)]; exact a2 k g1 (by omega))) ((jup_ne (by omega)).trans ((jup_ne (by omega)).trans f2))
  intro h3 b3 a3 f3
  refine J_aload_n dX6_init_23 rfl ?_
  refine J_new (N := 1) (bc := 109) (bs := 4219) dX6_init_24 n_X6_22 ?_
  refine J_dup dX6_init_27 rfl ?_
  refine J_sipush (v := Int32.ofInt 800) dX6_init_28 (by decide) ?_
  refine J_callI (As := [vi 800]) (bc := 107) (bs := 3417) (bc' := 2) (bs' := 802) (d' := 2) dX6_init_31 i_X6_24 rfl (Nat.le_of_ble_eq_true rfl) (by omega) (Nat.le_of_ble_eq_true rfl) (ini1 (p := 6) (by decide) (m := 800) (by decide) (Nat.le_refl _) jup_same) (fun E n' h' q => by cases q.1) (fun v n' h' q => ?_)
  obtain ⟨e1, e2, qa, qb⟩ := q
  cases e1
  have e3 : n' = 9 := e2
  subst e3
  simp only [Option.toList, List.nil_append]
  refine J_putF dX6_init_34 rfl (fun q e => by cases e; rfl) f_X6_27 ((qb 1 (by omega)).trans ((jup_ne (by omega)).trans b3)) (Nat.le_of_ble_eq_true rfl) jfit_r ?_
  suffices key : ∀ z : jH, z 1 = (6, [.ref 2, .ref 5, .ref 6, .null, .null, .null, .int 0, .int 0]) → (∀ k, 1 < k → k < 9 → z k = T5 [.null, .null, .null, .null] k) → z 0 = h 0 → jJ l G (Yx mX6_init) d 107 3417 9 37 [some (.ref 1), none] [] z (dK h) from key _ jup_same (fun k g1 g2 => (jup_ne (by omega)).trans (rg_step a3 (fun k g1 g2 => (qa k g1 g2).trans (T5_ne (by omega)).symm) qb k g1 g2)) ((jup_ne (by omega)).trans ((qb 0 (by omega)).trans ((jup_ne (by omega)).trans f3)))
  intro h4 b4 a4 f4
  refine J_aload_n dX6_init_37 rfl ?_
  refine J_new (N := 1) (bc := 106) (bs := 3416) dX6_init_38 n_X6_22 ?_
  refine J_dup dX6_init_41 rfl ?_
  refine J_sipush (v := Int32.ofInt 1060) dX6_init_42 (by decide) ?_
  refine J_callI (As := [vi 1060]) (bc := 104) (bs := 2354) (bc' := 2) (bs' := 1062) (d' := 2) dX6_init_45 i_X6_24 rfl (Nat.le_of_ble_eq_true rfl) (by omega) (Nat.le_of_ble_eq_true rfl) (ini1 (p := 9) (by decide) (m := 1060) (by decide) (Nat.le_refl _) jup_same) (fun E n' h' q => by cases q.1) (fun v n' h' q => ?_)
  obtain ⟨e1, e2, qa, qb⟩ := q
  cases e1
  have e3 : n' = 12 := e2
  subst e3
  simp only [Option.toList, List.nil_append]
  refine J_putF dX6_init_48 rfl (fun q e => by cases e; rfl) f_X6_31 ((qb 1 (by omega)).trans ((jup_ne (by omega)).trans b4)) (Nat.le_of_ble_eq_true rfl) jfit_r ?_
  suffices key : ∀ z : jH, z 1 = (6, [.ref 2, .ref 5, .ref 6, .ref 9, .null, .null, .int 0, .int 0]) → (∀ k, 1 < k → k < 12 → z k = T5 [.null, .null, .null, .null] k) → z 0 = h 0 → jJ l G (Yx mX6_init) d 104 2354 12 51 [some (.ref 1), none] [] z (dK h) from key _ jup_same (fun k g1 g2 => (jup_ne (by omega)).trans (rg_step a4 (fun k g1 g2 => (qa k g1 g2).trans (T5_ne (by omega)).symm) qb k g1 g2)) ((jup_ne (by omega)).trans ((qb 0 (by omega)).trans ((jup_ne (by omega)).trans f4)))
  intro h5 b5 a5 f5
  refine J_aload_n dX6_init_51 rfl ?_
  refine J_new (N := 12) (bc := 103) (bs := 2342) dX6_init_52 n_X6_34 ?_
  refine J_dup dX6_init_55 rfl ?_
  refine J_callIN (As := []) (bc := 74) (bs := 1455) (bc' := 29) (bs' := 887) (d' := 3) dX6_init_56 i_X6_36 rfl (Nat.le_of_ble_eq_true rfl) (by omega) (Nat.le_of_ble_eq_true rfl) (ini0 (p := 12) (by decide) (Nat.le_refl _) jup_same) (fun E n' h' q => by cases q.1) (fun v n' h' q => ?_)
  obtain ⟨e1, e2, qa, qb⟩ := q
  cases e1
  have e3 : n' = 42 := e2
  subst e3
  simp only [Option.toList, List.nil_append]
  refine J_put dX6_init_59 f_X6_37 ((qb 1 (by omega)).trans ((jup_ne (by omega)).trans b5)) (Nat.le_of_ble_eq_true rfl) jfit_r ?_
  suffices key : ∀ z : jH, z 1 = (6, [.ref 2, .ref 5, .ref 6, .ref 9, .ref 12, .null, .int 0, .int 0]) → (∀ k, 1 < k → k < 42 → z k = T5 [.null, .null, .null, .null] k) → z 0 = h 0 → jJ l G (Yx mX6_init) d 74 1455 42 62 [some (.ref 1), none] [] z (dK h) from key _ jup_same (fun k g1 g2 => (jup_ne (by omega)).trans (rg_step a5 (fun k g1 g2 => (qa k g1 g2).trans (T5_ne (by omega)).symm) qb k g1 g2)) ((jup_ne (by omega)).trans ((qb 0 (by omega)).trans ((jup_ne (by omega)).trans f5)))
  intro h6 b6 a6 f6
  refine J_aload_n dX6_init_62 rfl ?_
  refine J_new (N := 12) (bc := 73) (bs := 1443) dX6_init_63 n_X6_34 ?_
  refine J_dup dX6_init_66 rfl ?_
  refine J_callIN (As := []) (bc := 44) (bs := 556) (bc' := 29) (bs' := 887) (d' := 3) dX6_init_67 i_X6_36 rfl (Nat.le_of_ble_eq_true rfl) (by omega) (Nat.le_of_ble_eq_true rfl) (ini0 (p := 42) (by decide) (Nat.le_refl _) jup_same) (fun E n' h' q => by cases q.1) (fun v n' h' q => ?_)
  obtain ⟨e1, e2, qa, qb⟩ := q
  cases e1
  have e3 : n' = 72 := e2
  subst e3
  simp only [Option.toList, List.nil_append]
  refine J_put dX6_init_70 f_X6_41 ((qb 1 (by omega)).trans ((jup_ne (by omega)).trans b6)) (Nat.le_of_ble_eq_true rfl) jfit_r ?_
  suffices key : ∀ z : jH, z 1 = (6, [.ref 2, .ref 5, .ref 6, .ref 9, .ref 12, .ref 42, .int 0, .int 0]) → (∀ k, 1 < k → k < 72 → z k = T5 [.null, .null, .null, .null] k) → z 0 = h 0 → jJ l G (Yx mX6_init) d 44 556 72 73 [some (.ref 1), none] [] z (dK h) from key _ jup_same (fun k g1 g2 => (jup_ne (by omega)).trans (rg_step a6 (fun k g1 g2 => (qa k g1 g2).trans (T5_ne (by omega)).symm) qb k g1 g2)) ((jup_ne (by omega)).trans ((qb 0 (by omega)).trans ((jup_ne (by omega)).trans f6)))
  intro h7 b7 a7 f7
  refine J_aload_n dX6_init_73 rfl ?_
  refine J_iconst (v := 0) dX6_init_74 (by decide) ?_
  refine J_put dX6_init_75 f_X6_44 b7 (Nat.le_of_ble_eq_true rfl) jfit_z0 ?_
  suffices key : ∀ z : jH, z 1 = (6, [.ref 2, .ref 5, .ref 6, .ref 9, .ref 12, .ref 42, .int 0, .int 0]) → (∀ k, 1 < k → k < 72 → z k = T5 [.null, .null, .null, .null] k) → z 0 = h 0 → jJ l G (Yx mX6_init) d 44 556 72 78 [some (.ref 1), none] [] z (dK h) from key _ jup_same (fun k g1 g2 => (jup_ne (by omega)).trans (a7 k g1 g2)) ((jup_ne (by omega)).trans f7)
  intro h8 b8 a8 f8
  refine J_aload_n dX6_init_78 rfl ?_
  refine J_iconst (v := Int32.ofInt (-1)) dX6_init_79 (by decide) ?_
  refine J_put dX6_init_80 f_X6_48 b8 (Nat.le_of_ble_eq_true rfl) jfit_i ?_
  suffices key : ∀ z : jH, z 1 = (6, [.ref 2, .ref 5, .ref 6, .ref 9, .ref 12, .ref 42, .int 0, vi (-1)]) → (∀ k, 1 < k → k < 72 → z k = T5 [.null, .null, .null, .null] k) → z 0 = h 0 → jJ l G (Yx mX6_init) d 44 556 72 83 [some (.ref 1), none] [] z (dK h) from key _ jup_same (fun k g1 g2 => (jup_ne (by omega)).trans (a8 k g1 g2)) ((jup_ne (by omega)).trans f8)
  intro h9 b9 a9 f9
  refine J_iconst (v := Int32.ofInt 0) dX6_init_83 (by decide) ?_
  refine J_istore_n dX6_init_84 (by decide) rfl ?_
  show jJ l G (Yx mX6_init) d 44 556 72 85 [some (.ref 1), some (vi 0)] [] h9 (dK h)
  refine J_iload_n dX6_init_85 rfl ?_
  refine J_aload_n dX6_init_86 rfl ?_
  refine J_get dX6_init_87 f_X6_18 b9 rfl ?_
  refine J_alen dX6_init_90 ((a9 5 (by omega) (by omega)).trans T5_5) (by decide) ?_
  refine J_icmp_ge (tgt := 113) dX6_init_91 (by decide) (fun z => absurd z (by decide)) (fun z => ?_)
  refine J_aload_n dX6_init_94 rfl ?_
  refine J_get dX6_init_95 f_X6_18 b9 rfl ?_
  refine J_iload_n dX6_init_98 rfl ?_
  refine J_new (N := 9) (bc := 43) (bs := 547) dX6_init_99 n_X6_16 ?_
  refine J_dup dX6_init_102 rfl ?_
  refine J_callIN (As := []) (bc := 33) (bs := 417) (bc' := 10) (bs' := 130) (d' := 2) dX6_init_103 i_X6_52 rfl (Nat.le_of_ble_eq_true rfl) (by omega) (Nat.le_of_ble_eq_true rfl) (ini4 (p := 72) (by decide) (Nat.le_refl _) jup_same) (fun E n' h' q => by cases q.1) (fun v n' h' q => ?_)
  obtain ⟨e1, e2, qa, qb⟩ := q
  cases e1
  have e3 : n' = 83 := e2
  subst e3
  simp only [Option.toList, List.nil_append]
  refine J_aast (ci := 0) dX6_init_106 ((qb 5 (by omega)).trans ((jup_ne (by omega)).trans ((a9 5 (by omega) (by omega)).trans T5_5))) ((qa 72 (by omega) (by omega)).trans (T0_4 (by decide))) (by decide) (by decide) ?_
  refine J_iinc (v := Int32.ofInt 1) dX6_init_107 rfl (by decide) (by decide) rfl ?_
  refine J_goto (tgt := 85) dX6_init_110 (by decide) ?_
  suffices key : ∀ z : jH, z 1 = (6, [.ref 2, .ref 5, .ref 6, .ref 9, .ref 12, .ref 42, .int 0, vi (-1)]) → (∀ k, 1 < k → k < 83 → z k = T5 [.ref 72, .null, .null, .null] k) → z 0 = h 0 → jJ l G (Yx mX6_init) d 33 417 83 85 [some (.ref 1), some (vi 1)] [] z (dK h) from key _ ((jup_ne (by omega)).trans ((qb 1 (by omega)).trans ((jup_ne (by omega)).trans b9))) (fun k g1 g2 => by by_cases e : k = 5; (subst e; rw [jup_same, T5_5]; rfl); (rw [jup_ne e, T5_ne e]; exact (rg_step a9 (fun k g1 g2 => (qa k g1 g2).trans (T5_ne (by omega)).symm) qb k g1 g2).trans (T5_ne e))) ((jup_ne (by omega)).trans ((qb 0 (by omega)).trans ((jup_ne (by omega)).trans f9)))
  intro h10 b10 a10 f10
  show jJ l G (Yx mX6_init) d 33 417 83 85 [some (.ref 1), some (vi 1)] [] h10 (dK h)
  refine J_iload_n dX6_init_85 rfl ?_
  refine J_aload_n dX6_init_86 rfl ?_
  refine J_get dX6_init_87 f_X6_18 b10 rfl ?_
  refine J_alen dX6_init_90 ((a10 5 (by omega) (by omega)).trans T5_5) (by decide) ?_
  refine J_icmp_ge (tgt := 113) dX6_init_91 (by decide) (fun z => absurd z (by decide)) (fun z => ?_)
  refine J_aload_n dX6_init_94 rfl ?_
  refine J_get dX6_init_95 f_X6_18 b10 rfl ?_
  refine J_iload_n dX6_init_98 rfl ?_
  refine J_new (N := 9) (bc := 32) (bs := 408) dX6_init_99 n_X6_16 ?_
  refine J_dup dX6_init_102 rfl ?_
  refine J_callIN (As := []) (bc := 22) (bs := 278) (bc' := 10) (bs' := 130) (d' := 2) dX6_init_103 i_X6_52 rfl (Nat.le_of_ble_eq_true rfl) (by omega) (Nat.le_of_ble_eq_true rfl) (ini4 (p := 83) (by decide) (Nat.le_refl _) jup_same) (fun E n' h' q => by cases q.1) (fun v n' h' q => ?_)
  obtain ⟨e1, e2, qa, qb⟩ := q
  cases e1
  have e3 : n' = 94 := e2
  subst e3
  simp only [Option.toList, List.nil_append]
  refine J_aast (ci := 0) dX6_init_106 ((qb 5 (by omega)).trans ((jup_ne (by omega)).trans ((a10 5 (by omega) (by omega)).trans T5_5))) ((qa 83 (by omega) (by omega)).trans (T0_4 (by decide))) (by decide) (by decide) ?_
  refine J_iinc (v := Int32.ofInt 2) dX6_init_107 rfl (by decide) (by decide) rfl ?_
  refine J_goto (tgt := 85) dX6_init_110 (by decide) ?_
  suffices key : ∀ z : jH, z 1 = (6, [.ref 2, .ref 5, .ref 6, .ref 9, .ref 12, .ref 42, .int 0, vi (-1)]) → (∀ k, 1 < k → k < 94 → z k = T5 [.ref 72, .ref 83, .null, .null] k) → z 0 = h 0 → jJ l G (Yx mX6_init) d 22 278 94 85 [some (.ref 1), some (vi 2)] [] z (dK h) from key _ ((jup_ne (by omega)).trans ((qb 1 (by omega)).trans ((jup_ne (by omega)).trans b10))) (fun k g1 g2 => by by_cases e : k = 5; (subst e; rw [jup_same, T5_5]; rfl); (rw [jup_ne e, T5_ne e]; exact (rg_step a10 (fun k g1 g2 => (qa k g1 g2).trans (T5_ne (by omega)).symm) qb k g1 g2).trans (T5_ne e))) ((jup_ne (by omega)).trans ((qb 0 (by omega)).trans ((jup_ne (by omega)).trans f10)))
  intro h11 b11 a11 f11
  show jJ l G (Yx mX6_init) d 22 278 94 85 [some (.ref 1), some (vi 2)] [] h11 (dK h)
  refine J_iload_n dX6_init_85 rfl ?_
  refine J_aload_n dX6_init_86 rfl ?_
  refine J_get dX6_init_87 f_X6_18 b11 rfl ?_
  refine J_alen dX6_init_90 ((a11 5 (by omega) (by omega)).trans T5_5) (by decide) ?_
  refine J_icmp_ge (tgt := 113) dX6_init_91 (by decide) (fun z => absurd z (by decide)) (fun z => ?_)
  refine J_aload_n dX6_init_94 rfl ?_
  refine J_get dX6_init_95 f_X6_18 b11 rfl ?_
  refine J_iload_n dX6_init_98 rfl ?_
  refine J_new (N := 9) (bc := 21) (bs := 269) dX6_init_99 n_X6_16 ?_
  refine J_dup dX6_init_102 rfl ?_
  refine J_callIN (As := []) (bc := 11) (bs := 139) (bc' := 10) (bs' := 130) (d' := 2) dX6_init_103 i_X6_52 rfl (Nat.le_of_ble_eq_true rfl) (by omega) (Nat.le_of_ble_eq_true rfl) (ini4 (p := 94) (by decide) (Nat.le_refl _) jup_same) (fun E n' h' q => by cases q.1) (fun v n' h' q => ?_)
  obtain ⟨e1, e2, qa, qb⟩ := q
  cases e1
  have e3 : n' = 105 := e2
  subst e3
  simp only [Option.toList, List.nil_append]
  refine J_aast (ci := 0) dX6_init_106 ((qb 5 (by omega)).trans ((jup_ne (by omega)).trans ((a11 5 (by omega) (by omega)).trans T5_5))) ((qa 94 (by omega) (by omega)).trans (T0_4 (by decide))) (by decide) (by decide) ?_
  refine J_iinc (v := Int32.ofInt 3) dX6_init_107 rfl (by decide) (by decide) rfl ?_
  refine J_goto (tgt := 85) dX6_init_110 (by decide) ?_
  suffices key : ∀ z : jH, z 1 = (6, [.ref 2, .ref 5, .ref 6, .ref 9, .ref 12, .ref 42, .int 0, vi (-1)]) → (∀ k, 1 < k → k < 105 → z k = T5 [.ref 72, .ref 83, .ref 94, .null] k) → z 0 = h 0 → jJ l G (Yx mX6_init) d 11 139 105 85 [some (.ref 1), some (vi 3)] [] z (dK h) from key _ ((jup_ne (by omega)).trans ((qb 1 (by omega)).trans ((jup_ne (by omega)).trans b11))) (fun k g1 g2 => by by_cases e : k = 5; (subst e; rw [jup_same, T5_5]; rfl); (rw [jup_ne e, T5_ne e]; exact (rg_step a11 (fun k g1 g2 => (qa k g1 g2).trans (T5_ne (by omega)).symm) qb k g1 g2).trans (T5_ne e))) ((jup_ne (by omega)).trans ((qb 0 (by omega)).trans ((jup_ne (by omega)).trans f11)))
  intro h12 b12 a12 f12
  show jJ l G (Yx mX6_init) d 11 139 105 85 [some (.ref 1), some (vi 3)] [] h12 (dK h)
  refine J_iload_n dX6_init_85 rfl ?_
  refine J_aload_n dX6_init_86 rfl ?_
  refine J_get dX6_init_87 f_X6_18 b12 rfl ?_
  refine J_alen dX6_init_90 ((a12 5 (by omega) (by omega)).trans T5_5) (by decide) ?_
  refine J_icmp_ge (tgt := 113) dX6_init_91 (by decide) (fun z => absurd z (by decide)) (fun z => ?_)
  refine J_aload_n dX6_init_94 rfl ?_
  refine J_get dX6_init_95 f_X6_18 b12 rfl ?_
  refine J_iload_n dX6_init_98 rfl ?_
  refine J_new (N := 9) (bc := 10) (bs := 130) dX6_init_99 n_X6_16 ?_
  refine J_dup dX6_init_102 rfl ?_
  refine J_callIN (As := []) (bc := 0) (bs := 0) (bc' := 10) (bs' := 130) (d' := 2) dX6_init_103 i_X6_52 rfl (Nat.le_of_ble_eq_true rfl) (by omega) (Nat.le_of_ble_eq_true rfl) (ini4 (p := 105) (by decide) (Nat.le_refl _) jup_same) (fun E n' h' q => by cases q.1) (fun v n' h' q => ?_)
  obtain ⟨e1, e2, qa, qb⟩ := q
  cases e1
  have e3 : n' = 116 := e2
  subst e3
  simp only [Option.toList, List.nil_append]
  refine J_aast (ci := 0) dX6_init_106 ((qb 5 (by omega)).trans ((jup_ne (by omega)).trans ((a12 5 (by omega) (by omega)).trans T5_5))) ((qa 105 (by omega) (by omega)).trans (T0_4 (by decide))) (by decide) (by decide) ?_
  refine J_iinc (v := Int32.ofInt 4) dX6_init_107 rfl (by decide) (by decide) rfl ?_
  refine J_goto (tgt := 85) dX6_init_110 (by decide) ?_
  suffices key : ∀ z : jH, z 1 = (6, [.ref 2, .ref 5, .ref 6, .ref 9, .ref 12, .ref 42, .int 0, vi (-1)]) → (∀ k, 1 < k → k < 116 → z k = T5 [.ref 72, .ref 83, .ref 94, .ref 105] k) → z 0 = h 0 → jJ l G (Yx mX6_init) d 0 0 116 85 [some (.ref 1), some (vi 4)] [] z (dK h) from key _ ((jup_ne (by omega)).trans ((qb 1 (by omega)).trans ((jup_ne (by omega)).trans b12))) (fun k g1 g2 => by by_cases e : k = 5; (subst e; rw [jup_same, T5_5]; rfl); (rw [jup_ne e, T5_ne e]; exact (rg_step a12 (fun k g1 g2 => (qa k g1 g2).trans (T5_ne (by omega)).symm) qb k g1 g2).trans (T5_ne e))) ((jup_ne (by omega)).trans ((qb 0 (by omega)).trans ((jup_ne (by omega)).trans f12)))
  intro h13 b13 a13 f13
  show jJ l G (Yx mX6_init) d 0 0 116 85 [some (.ref 1), some (vi 4)] [] h13 (dK h)
  refine J_iload_n dX6_init_85 rfl ?_
  refine J_aload_n dX6_init_86 rfl ?_
  refine J_get dX6_init_87 f_X6_18 b13 rfl ?_
  refine J_alen dX6_init_90 ((a13 5 (by omega) (by omega)).trans T5_5) (by decide) ?_
  refine J_icmp_ge (tgt := 113) dX6_init_91 (by decide) (fun z => ?_) (fun z => absurd (by decide) z)
  refine J_vret dX6_init_113 rfl ⟨rfl, rfl, fun k g1 g2 => ?_, f13⟩
  by_cases e : k = 1
  · subst e; rw [b13]; simp only [← vi0]; rfl
  · rw [a13 k (by omega) g2]; unfold T5; split
    · rename_i e2; subst e2; rfl
    · rfl
def T7L : List Nat := [400, 4, 96, 96, 96, 96, 4, 41, 42, 124, 124, 400, 41, 42, 124, 124, 400, 20, 20, 20, 20, 20, 20, 20, 20, 4, 4, 1200, 2400]
def T7 (k : Nat) : Nat × List Value := (if k = 120 then 12 else 10, List.replicate (T7L.getD (k - 117) 0) (.int 0))
def mK (h : jH) : jK := fun o n' h' => o = .inl none ∧ n' = 146 ∧ h' 116 = (7, mfs (fun k => if k = 13 then -1 else 0)) ∧ (∀ k, 117 ≤ k → k < 146 → k ≠ 123 → h' k = T7 k) ∧ h' 123 = (10, [vi (-1), vi (-1), vi (-1), vi (-1)]) ∧ (∀ k, k < 116 → h' k = h k)
theorem ini7 {l : Launch} {G : jG} {d : Nat} {h : jH} (hd : 1 ≤ d) (hh : h 116 = (7, [.int 0, .int 0, .null, .null, .null, .null, .null, .null, .null, .int 0, .int 0, .int 0, .int 0, .int 0, .int 0, .null, .null, .int 0, .null, .int 0, .null, .int 0, .null, .int 0, .int 0, .null, .null, .int 0, .null, .int 0, .null, .null, .int 0, .int 0, .null, .null, .null, .null, .null, .int 0, .null, .null, .null, .int 0, .int 0, .int 0, .null, .null, .int 0, .null, .int 0, .null, .int 0])) : jJ l G (Yx mX7_init) d 29 6022 117 0 [some (.ref 116), none] [] h (mK h) := by
  refine J_aload_n dX7_init_0 rfl ?_
  refine J_objInit dX7_init_1 (List.mem_of_getElem? (i := 878) (by decide +kernel)) (List.mem_of_getElem? (i := 80) (by decide +kernel)) (List.mem_of_getElem? (i := 81) (by decide +kernel)) (by omega) (Nat.le_of_ble_eq_true rfl) ?_
  suffices key : ∀ z : jH, z 116 = (7, [.int 0, .int 0, .null, .null, .null, .null, .null, .null, .null, .int 0, .int 0, .int 0, .int 0, .int 0, .int 0, .null, .null, .int 0, .null, .int 0, .null, .int 0, .null, .int 0, .int 0, .null, .null, .int 0, .null, .int 0, .null, .null, .int 0, .int 0, .null, .null, .null, .null, .null, .int 0, .null, .null, .null, .int 0, .int 0, .int 0, .null, .null, .int 0, .null, .int 0, .null, .int 0]) → (∀ k, 116 < k → k < 117 → z k = T7 k) → (∀ k, k < 116 → z k = h k) → jJ l G (Yx mX7_init) d 29 6022 117 4 [some (.ref 116), none] [] z (mK h) from key _ hh (fun k g1 g2 => by omega) (fun k g => rfl)
  intro h1 b1 a1 f1
  refine J_aload_n dX7_init_4 rfl ?_
  refine J_sipush (v := Int32.ofInt 400) dX7_init_5 (by decide) ?_
  refine J_newa (ci := 10) (N := 400) (bc := 28) (bs := 5622) dX7_init_8 (by decide) rfl (List.mem_of_getElem? (i := 104) (by decide +kernel)) (by decide) (by decide) (by decide) rfl (fun _ => rfl) ?_
  refine J_put dX7_init_10 f_X7_7 ((jup_ne (by omega)).trans b1) (Nat.le_of_ble_eq_true rfl) jfit_a ?_
  suffices key : ∀ z : jH, z 116 = (7, [.int 0, .int 0, .ref 117, .null, .null, .null, .null, .null, .null, .int 0, .int 0, .int 0, .int 0, .int 0, .int 0, .null, .null, .int 0, .null, .int 0, .null, .int 0, .null, .int 0, .int 0, .null, .null, .int 0, .null, .int 0, .null, .null, .int 0, .int 0, .null, .null, .null, .null, .null, .int 0, .null, .null, .null, .int 0, .int 0, .int 0, .null, .null, .int 0, .null, .int 0, .null, .int 0]) → (∀ k, 116 < k → k < 118 → z k = T7 k) → (∀ k, k < 116 → z k = h k) → jJ l G (Yx mX7_init) d 28 5622 118 13 [some (.ref 116), none] [] z (mK h) from key _ jup_same (fun k g1 g2 => by by_cases e : k = 117; (subst e; rw [jup_ne (by omega), jup_same]; rfl); (rw [jup_ne (by omega), jup_ne e]; exact a1 k g1 (by omega))) (fun k g => (jup_ne (by omega)).trans ((jup_ne (by omega)).trans (f1 k g)))
  intro h2 b2 a2 f2
  refine J_aload_n dX7_init_13 rfl ?_
  refine J_iconst (v := Int32.ofInt 4) dX7_init_14 (by decide) ?_
  refine J_newa (ci := 10) (N := 4) (bc := 27) (bs := 5618) dX7_init_15 (by decide) rfl (List.mem_of_getElem? (i := 104) (by decide +kernel)) (by decide) (by decide) (by decide) rfl (fun _ => rfl) ?_
  refine J_put dX7_init_17 f_X7_13 ((jup_ne (by omega)).trans b2) (Nat.le_of_ble_eq_true rfl) jfit_a ?_
  suffices key : ∀ z : jH, z 116 = (7, [.int 0, .int 0, .ref 117, .ref 118, .null, .null, .null, .null, .null, .int 0, .int 0, .int 0, .int 0, .int 0, .int 0, .null, .null, .int 0, .null, .int 0, .null, .int 0, .null, .int 0, .int 0, .null, .null, .int 0, .null, .int 0, .null, .null, .int 0, .int 0, .null, .null, .null, .null, .null, .int 0, .null, .null, .null, .int 0, .int 0, .int 0, .null, .null, .int 0, .null, .int 0, .null, .int 0]) → (∀ k, 116 < k → k < 119 → z k = T7 k) → (∀ k, k < 116 → z k = h k) → jJ l G (Yx mX7_init) d 27 5618 119 20 [some (.ref 116), none] [] z (mK h) from key _ jup_same (fun k g1 g2 => by by_cases e : k = 118; (subst e; rw [jup_ne (by omega), jup_same]; rfl); (rw [jup_ne (by omega), jup_ne e]; exact a2 k g1 (by omega))) (fun k g => (jup_ne (by omega)).trans ((jup_ne (by omega)).trans (f2 k g)))
  intro h3 b3 a3 f3
  refine J_aload_n dX7_init_20 rfl ?_
  refine J_bipush (v := Int32.ofInt 96) dX7_init_21 (by decide) ?_
  refine J_newa (ci := 10) (N := 96) (bc := 26) (bs := 5522) dX7_init_23 (by decide) rfl (List.mem_of_getElem? (i := 104) (by decide +kernel)) (by decide) (by decide) (by decide) rfl (fun _ => rfl) ?_
  refine J_put dX7_init_25 f_X7_16 ((jup_ne (by omega)).trans b3) (Nat.le_of_ble_eq_true rfl) jfit_a ?_
  suffices key : ∀ z : jH, z 116 = (7, [.int 0, .int 0, .ref 117, .ref 118, .ref 119, .null, .null, .null, .null, .int 0, .int 0, .int 0, .int 0, .int 0, .int 0, .null, .null, .int 0, .null, .int 0, .null, .int 0, .null, .int 0, .int 0, .null, .null, .int 0, .null, .int 0, .null, .null, .int 0, .int 0, .null, .null, .null, .null, .null, .int 0, .null, .null, .null, .int 0, .int 0, .int 0, .null, .null, .int 0, .null, .int 0, .null, .int 0]) → (∀ k, 116 < k → k < 120 → z k = T7 k) → (∀ k, k < 116 → z k = h k) → jJ l G (Yx mX7_init) d 26 5522 120 28 [some (.ref 116), none] [] z (mK h) from key _ jup_same (fun k g1 g2 => by by_cases e : k = 119; (subst e; rw [jup_ne (by omega), jup_same]; rfl); (rw [jup_ne (by omega), jup_ne e]; exact a3 k g1 (by omega))) (fun k g => (jup_ne (by omega)).trans ((jup_ne (by omega)).trans (f3 k g)))
  intro h4 b4 a4 f4
  refine J_aload_n dX7_init_28 rfl ?_
  refine J_bipush (v := Int32.ofInt 96) dX7_init_29 (by decide) ?_
  refine J_newa (ci := 12) (N := 96) (bc := 25) (bs := 5426) dX7_init_31 (by decide) rfl (List.mem_of_getElem? (i := 1039) (by decide +kernel)) (by decide) (by decide) (by decide) rfl (fun _ => rfl) ?_
  refine J_put dX7_init_33 f_X7_19 ((jup_ne (by omega)).trans b4) (Nat.le_of_ble_eq_true rfl) jfit_a ?_
  suffices key : ∀ z : jH, z 116 = (7, [.int 0, .int 0, .ref 117, .ref 118, .ref 119, .ref 120, .null, .null, .null, .int 0, .int 0, .int 0, .int 0, .int 0, .int 0, .null, .null, .int 0, .null, .int 0, .null, .int 0, .null, .int 0, .int 0, .null, .null, .int 0, .null, .int 0, .null, .null, .int 0, .int 0, .null, .null, .null, .null, .null, .int 0, .null, .null, .null, .int 0, .int 0, .int 0, .null, .null, .int 0, .null, .int 0, .null, .int 0]) → (∀ k, 116 < k → k < 121 → z k = T7 k) → (∀ k, k < 116 → z k = h k) → jJ l G (Yx mX7_init) d 25 5426 121 36 [some (.ref 116), none] [] z (mK h) from key _ jup_same (fun k g1 g2 => by by_cases e : k = 120; (subst e; rw [jup_ne (by omega), jup_same]; rfl); (rw [jup_ne (by omega), jup_ne e]; exact a4 k g1 (by omega))) (fun k g => (jup_ne (by omega)).trans ((jup_ne (by omega)).trans (f4 k g)))
  intro h5 b5 a5 f5
  refine J_aload_n dX7_init_36 rfl ?_
  refine J_bipush (v := Int32.ofInt 96) dX7_init_37 (by decide) ?_
  refine J_newa (ci := 10) (N := 96) (bc := 24) (bs := 5330) dX7_init_39 (by decide) rfl (List.mem_of_getElem? (i := 104) (by decide +kernel)) (by decide) (by decide) (by decide) rfl (fun _ => rfl) ?_
  refine J_put dX7_init_41 f_X7_23 ((jup_ne (by omega)).trans b5) (Nat.le_of_ble_eq_true rfl) jfit_a ?_
  suffices key : ∀ z : jH, z 116 = (7, [.int 0, .int 0, .ref 117, .ref 118, .ref 119, .ref 120, .ref 121, .null, .null, .int 0, .int 0, .int 0, .int 0, .int 0, .int 0, .null, .null, .int 0, .null, .int 0, .null, .int 0, .null, .int 0, .int 0, .null, .null, .int 0, .null, .int 0, .null, .null, .int 0, .int 0, .null, .null, .null, .null, .null, .int 0, .null, .null, .null, .int 0, .int 0, .int 0, .null, .null, .int 0, .null, .int 0, .null, .int 0]) → (∀ k, 116 < k → k < 122 → z k = T7 k) → (∀ k, k < 116 → z k = h k) → jJ l G (Yx mX7_init) d 24 5330 122 44 [some (.ref 116), none] [] z (mK h) from key _ jup_same (fun k g1 g2 => by by_cases e : k = 121; (subst e; rw [jup_ne (by omega), jup_same]; rfl); (rw [jup_ne (by omega), jup_ne e]; exact a5 k g1 (by omega))) (fun k g => (jup_ne (by omega)).trans ((jup_ne (by omega)).trans (f5 k g)))
  intro h6 b6 a6 f6
  refine J_aload_n dX7_init_44 rfl ?_
  refine J_bipush (v := Int32.ofInt 96) dX7_init_45 (by decide) ?_
  refine J_newa (ci := 10) (N := 96) (bc := 23) (bs := 5234) dX7_init_47 (by decide) rfl (List.mem_of_getElem? (i := 104) (by decide +kernel)) (by decide) (by decide) (by decide) rfl (fun _ => rfl) ?_
  refine J_put dX7_init_49 f_X7_26 ((jup_ne (by omega)).trans b6) (Nat.le_of_ble_eq_true rfl) jfit_a ?_
  suffices key : ∀ z : jH, z 116 = (7, [.int 0, .int 0, .ref 117, .ref 118, .ref 119, .ref 120, .ref 121, .ref 122, .null, .int 0, .int 0, .int 0, .int 0, .int 0, .int 0, .null, .null, .int 0, .null, .int 0, .null, .int 0, .null, .int 0, .int 0, .null, .null, .int 0, .null, .int 0, .null, .null, .int 0, .int 0, .null, .null, .null, .null, .null, .int 0, .null, .null, .null, .int 0, .int 0, .int 0, .null, .null, .int 0, .null, .int 0, .null, .int 0]) → (∀ k, 116 < k → k < 123 → z k = T7 k) → (∀ k, k < 116 → z k = h k) → jJ l G (Yx mX7_init) d 23 5234 123 52 [some (.ref 116), none] [] z (mK h) from key _ jup_same (fun k g1 g2 => by by_cases e : k = 122; (subst e; rw [jup_ne (by omega), jup_same]; rfl); (rw [jup_ne (by omega), jup_ne e]; exact a6 k g1 (by omega))) (fun k g => (jup_ne (by omega)).trans ((jup_ne (by omega)).trans (f6 k g)))
  intro h7 b7 a7 f7
  refine J_aload_n dX7_init_52 rfl ?_
  refine J_iconst (v := Int32.ofInt 4) dX7_init_53 (by decide) ?_
  refine J_newa (ci := 10) (N := 4) (bc := 22) (bs := 5230) dX7_init_54 (by decide) rfl (List.mem_of_getElem? (i := 104) (by decide +kernel)) (by decide) (by decide) (by decide) rfl (fun _ => rfl) ?_
  refine J_put dX7_init_56 f_X7_29 ((jup_ne (by omega)).trans b7) (Nat.le_of_ble_eq_true rfl) jfit_a ?_
  suffices key : ∀ z : jH, z 116 = (7, [.int 0, .int 0, .ref 117, .ref 118, .ref 119, .ref 120, .ref 121, .ref 122, .ref 123, .int 0, .int 0, .int 0, .int 0, .int 0, .int 0, .null, .null, .int 0, .null, .int 0, .null, .int 0, .null, .int 0, .int 0, .null, .null, .int 0, .null, .int 0, .null, .null, .int 0, .int 0, .null, .null, .null, .null, .null, .int 0, .null, .null, .null, .int 0, .int 0, .int 0, .null, .null, .int 0, .null, .int 0, .null, .int 0]) → (∀ k, 116 < k → k < 124 → z k = T7 k) → (∀ k, k < 116 → z k = h k) → jJ l G (Yx mX7_init) d 22 5230 124 59 [some (.ref 116), none] [] z (mK h) from key _ jup_same (fun k g1 g2 => by by_cases e : k = 123; (subst e; rw [jup_ne (by omega), jup_same]; rfl); (rw [jup_ne (by omega), jup_ne e]; exact a7 k g1 (by omega))) (fun k g => (jup_ne (by omega)).trans ((jup_ne (by omega)).trans (f7 k g)))
  intro h8 b8 a8 f8
  refine J_aload_n dX7_init_59 rfl ?_
  refine J_iconst (v := Int32.ofInt (-1)) dX7_init_60 (by decide) ?_
  refine J_put dX7_init_61 f_X7_32 b8 (Nat.le_of_ble_eq_true rfl) jfit_i ?_
  suffices key : ∀ z : jH, z 116 = (7, [.int 0, .int 0, .ref 117, .ref 118, .ref 119, .ref 120, .ref 121, .ref 122, .ref 123, .int 0, .int 0, .int 0, .int 0, vi (-1), .int 0, .null, .null, .int 0, .null, .int 0, .null, .int 0, .null, .int 0, .int 0, .null, .null, .int 0, .null, .int 0, .null, .null, .int 0, .int 0, .null, .null, .null, .null, .null, .int 0, .null, .null, .null, .int 0, .int 0, .int 0, .null, .null, .int 0, .null, .int 0, .null, .int 0]) → (∀ k, 116 < k → k < 124 → z k = T7 k) → (∀ k, k < 116 → z k = h k) → jJ l G (Yx mX7_init) d 22 5230 124 64 [some (.ref 116), none] [] z (mK h) from key _ jup_same (fun k g1 g2 => (jup_ne (by omega)).trans (a8 k g1 g2)) (fun k g => (jup_ne (by omega)).trans (f8 k g))
  intro h9 b9 a9 f9
  refine J_aload_n dX7_init_64 rfl ?_
  refine J_bipush (v := Int32.ofInt 41) dX7_init_65 (by decide) ?_
  refine J_newa (ci := 10) (N := 41) (bc := 21) (bs := 5189) dX7_init_67 (by decide) rfl (List.mem_of_getElem? (i := 104) (by decide +kernel)) (by decide) (by decide) (by decide) rfl (fun _ => rfl) ?_
  refine J_put dX7_init_69 f_X7_36 ((jup_ne (by omega)).trans b9) (Nat.le_of_ble_eq_true rfl) jfit_a ?_
  suffices key : ∀ z : jH, z 116 = (7, [.int 0, .int 0, .ref 117, .ref 118, .ref 119, .ref 120, .ref 121, .ref 122, .ref 123, .int 0, .int 0, .int 0, .int 0, vi (-1), .int 0, .ref 124, .null, .int 0, .null, .int 0, .null, .int 0, .null, .int 0, .int 0, .null, .null, .int 0, .null, .int 0, .null, .null, .int 0, .int 0, .null, .null, .null, .null, .null, .int 0, .null, .null, .null, .int 0, .int 0, .int 0, .null, .null, .int 0, .null, .int 0, .null, .int 0]) → (∀ k, 116 < k → k < 125 → z k = T7 k) → (∀ k, k < 116 → z k = h k) → jJ l G (Yx mX7_init) d 21 5189 125 72 [some (.ref 116), none] [] z (mK h) from key _ jup_same (fun k g1 g2 => by by_cases e : k = 124; (subst e; rw [jup_ne (by omega), jup_same]; rfl); (rw [jup_ne (by omega), jup_ne e]; exact a9 k g1 (by omega))) (fun k g => (jup_ne (by omega)).trans ((jup_ne (by omega)).trans (f9 k g)))
  intro h10 b10 a10 f10
  refine J_aload_n dX7_init_72 rfl ?_
  refine J_bipush (v := Int32.ofInt 42) dX7_init_73 (by decide) ?_
  refine J_newa (ci := 10) (N := 42) (bc := 20) (bs := 5147) dX7_init_75 (by decide) rfl (List.mem_of_getElem? (i := 104) (by decide +kernel)) (by decide) (by decide) (by decide) rfl (fun _ => rfl) ?_
  refine J_put dX7_init_77 f_X7_39 ((jup_ne (by omega)).trans b10) (Nat.le_of_ble_eq_true rfl) jfit_a ?_
  suffices key : ∀ z : jH, z 116 = (7, [.int 0, .int 0, .ref 117, .ref 118, .ref 119, .ref 120, .ref 121, .ref 122, .ref 123, .int 0, .int 0, .int 0, .int 0, vi (-1), .int 0, .ref 124, .ref 125, .int 0, .null, .int 0, .null, .int 0, .null, .int 0, .int 0, .null, .null, .int 0, .null, .int 0, .null, .null, .int 0, .int 0, .null, .null, .null, .null, .null, .int 0, .null, .null, .null, .int 0, .int 0, .int 0, .null, .null, .int 0, .null, .int 0, .null, .int 0]) → (∀ k, 116 < k → k < 126 → z k = T7 k) → (∀ k, k < 116 → z k = h k) → jJ l G (Yx mX7_init) d 20 5147 126 80 [some (.ref 116), none] [] z (mK h) from key _ jup_same (fun k g1 g2 => by by_cases e : k = 125; (subst e; rw [jup_ne (by omega), jup_same]; rfl); (rw [jup_ne (by omega), jup_ne e]; exact a10 k g1 (by omega))) (fun k g => (jup_ne (by omega)).trans ((jup_ne (by omega)).trans (f10 k g)))
  intro h11 b11 a11 f11
  refine J_aload_n dX7_init_80 rfl ?_
  refine J_bipush (v := Int32.ofInt 124) dX7_init_81 (by decide) ?_
  refine J_newa (ci := 10) (N := 124) (bc := 19) (bs := 5023) dX7_init_83 (by decide) rfl (List.mem_of_getElem? (i := 104) (by decide +kernel)) (by decide) (by decide) (by decide) rfl (fun _ => rfl) ?_
  refine J_put dX7_init_85 f_X7_42 ((jup_ne (by omega)).trans b11) (Nat.le_of_ble_eq_true rfl) jfit_a ?_
  suffices key : ∀ z : jH, z 116 = (7, [.int 0, .int 0, .ref 117, .ref 118, .ref 119, .ref 120, .ref 121, .ref 122, .ref 123, .int 0, .int 0, .int 0, .int 0, vi (-1), .int 0, .ref 124, .ref 125, .int 0, .ref 126, .int 0, .null, .int 0, .null, .int 0, .int 0, .null, .null, .int 0, .null, .int 0, .null, .null, .int 0, .int 0, .null, .null, .null, .null, .null, .int 0, .null, .null, .null, .int 0, .int 0, .int 0, .null, .null, .int 0, .null, .int 0, .null, .int 0]) → (∀ k, 116 < k → k < 127 → z k = T7 k) → (∀ k, k < 116 → z k = h k) → jJ l G (Yx mX7_init) d 19 5023 127 88 [some (.ref 116), none] [] z (mK h) from key _ jup_same (fun k g1 g2 => by by_cases e : k = 126; (subst e; rw [jup_ne (by omega), jup_same]; rfl); (rw [jup_ne (by omega), jup_ne e]; exact a11 k g1 (by omega))) (fun k g => (jup_ne (by omega)).trans ((jup_ne (by omega)).trans (f11 k g)))
  intro h12 b12 a12 f12
  refine J_aload_n dX7_init_88 rfl ?_
  refine J_bipush (v := Int32.ofInt 124) dX7_init_89 (by decide) ?_
  refine J_newa (ci := 10) (N := 124) (bc := 18) (bs := 4899) dX7_init_91 (by decide) rfl (List.mem_of_getElem? (i := 104) (by decide +kernel)) (by decide) (by decide) (by decide) rfl (fun _ => rfl) ?_
  refine J_put dX7_init_93 f_X7_45 ((jup_ne (by omega)).trans b12) (Nat.le_of_ble_eq_true rfl) jfit_a ?_
  suffices key : ∀ z : jH, z 116 = (7, [.int 0, .int 0, .ref 117, .ref 118, .ref 119, .ref 120, .ref 121, .ref 122, .ref 123, .int 0, .int 0, .int 0, .int 0, vi (-1), .int 0, .ref 124, .ref 125, .int 0, .ref 126, .int 0, .ref 127, .int 0, .null, .int 0, .int 0, .null, .null, .int 0, .null, .int 0, .null, .null, .int 0, .int 0, .null, .null, .null, .null, .null, .int 0, .null, .null, .null, .int 0, .int 0, .int 0, .null, .null, .int 0, .null, .int 0, .null, .int 0]) → (∀ k, 116 < k → k < 128 → z k = T7 k) → (∀ k, k < 116 → z k = h k) → jJ l G (Yx mX7_init) d 18 4899 128 96 [some (.ref 116), none] [] z (mK h) from key _ jup_same (fun k g1 g2 => by by_cases e : k = 127; (subst e; rw [jup_ne (by omega), jup_same]; rfl); (rw [jup_ne (by omega), jup_ne e]; exact a12 k g1 (by omega))) (fun k g => (jup_ne (by omega)).trans ((jup_ne (by omega)).trans (f12 k g)))
  intro h13 b13 a13 f13
  refine J_aload_n dX7_init_96 rfl ?_
  refine J_sipush (v := Int32.ofInt 400) dX7_init_97 (by decide) ?_
  refine J_newa (ci := 10) (N := 400) (bc := 17) (bs := 4499) dX7_init_100 (by decide) rfl (List.mem_of_getElem? (i := 104) (by decide +kernel)) (by decide) (by decide) (by decide) rfl (fun _ => rfl) ?_
  refine J_put dX7_init_102 f_X7_48 ((jup_ne (by omega)).trans b13) (Nat.le_of_ble_eq_true rfl) jfit_a ?_
  suffices key : ∀ z : jH, z 116 = (7, [.int 0, .int 0, .ref 117, .ref 118, .ref 119, .ref 120, .ref 121, .ref 122, .ref 123, .int 0, .int 0, .int 0, .int 0, vi (-1), .int 0, .ref 124, .ref 125, .int 0, .ref 126, .int 0, .ref 127, .int 0, .ref 128, .int 0, .int 0, .null, .null, .int 0, .null, .int 0, .null, .null, .int 0, .int 0, .null, .null, .null, .null, .null, .int 0, .null, .null, .null, .int 0, .int 0, .int 0, .null, .null, .int 0, .null, .int 0, .null, .int 0]) → (∀ k, 116 < k → k < 129 → z k = T7 k) → (∀ k, k < 116 → z k = h k) → jJ l G (Yx mX7_init) d 17 4499 129 105 [some (.ref 116), none] [] z (mK h) from key _ jup_same (fun k g1 g2 => by by_cases e : k = 128; (subst e; rw [jup_ne (by omega), jup_same]; rfl); (rw [jup_ne (by omega), jup_ne e]; exact a13 k g1 (by omega))) (fun k g => (jup_ne (by omega)).trans ((jup_ne (by omega)).trans (f13 k g)))
  intro h14 b14 a14 f14
  refine J_aload_n dX7_init_105 rfl ?_
  refine J_bipush (v := Int32.ofInt 41) dX7_init_106 (by decide) ?_
  refine J_newa (ci := 10) (N := 41) (bc := 16) (bs := 4458) dX7_init_108 (by decide) rfl (List.mem_of_getElem? (i := 104) (by decide +kernel)) (by decide) (by decide) (by decide) rfl (fun _ => rfl) ?_
  refine J_put dX7_init_110 f_X7_51 ((jup_ne (by omega)).trans b14) (Nat.le_of_ble_eq_true rfl) jfit_a ?_
  suffices key : ∀ z : jH, z 116 = (7, [.int 0, .int 0, .ref 117, .ref 118, .ref 119, .ref 120, .ref 121, .ref 122, .ref 123, .int 0, .int 0, .int 0, .int 0, vi (-1), .int 0, .ref 124, .ref 125, .int 0, .ref 126, .int 0, .ref 127, .int 0, .ref 128, .int 0, .int 0, .ref 129, .null, .int 0, .null, .int 0, .null, .null, .int 0, .int 0, .null, .null, .null, .null, .null, .int 0, .null, .null, .null, .int 0, .int 0, .int 0, .null, .null, .int 0, .null, .int 0, .null, .int 0]) → (∀ k, 116 < k → k < 130 → z k = T7 k) → (∀ k, k < 116 → z k = h k) → jJ l G (Yx mX7_init) d 16 4458 130 113 [some (.ref 116), none] [] z (mK h) from key _ jup_same (fun k g1 g2 => by by_cases e : k = 129; (subst e; rw [jup_ne (by omega), jup_same]; rfl); (rw [jup_ne (by omega), jup_ne e]; exact a14 k g1 (by omega))) (fun k g => (jup_ne (by omega)).trans ((jup_ne (by omega)).trans (f14 k g)))
  intro h15 b15 a15 f15
  refine J_aload_n dX7_init_113 rfl ?_
  refine J_bipush (v := Int32.ofInt 42) dX7_init_114 (by decide) ?_
  refine J_newa (ci := 10) (N := 42) (bc := 15) (bs := 4416) dX7_init_116 (by decide) rfl (List.mem_of_getElem? (i := 104) (by decide +kernel)) (by decide) (by decide) (by decide) rfl (fun _ => rfl) ?_
  refine J_put dX7_init_118 f_X7_54 ((jup_ne (by omega)).trans b15) (Nat.le_of_ble_eq_true rfl) jfit_a ?_
  suffices key : ∀ z : jH, z 116 = (7, [.int 0, .int 0, .ref 117, .ref 118, .ref 119, .ref 120, .ref 121, .ref 122, .ref 123, .int 0, .int 0, .int 0, .int 0, vi (-1), .int 0, .ref 124, .ref 125, .int 0, .ref 126, .int 0, .ref 127, .int 0, .ref 128, .int 0, .int 0, .ref 129, .ref 130, .int 0, .null, .int 0, .null, .null, .int 0, .int 0, .null, .null, .null, .null, .null, .int 0, .null, .null, .null, .int 0, .int 0, .int 0, .null, .null, .int 0, .null, .int 0, .null, .int 0]) → (∀ k, 116 < k → k < 131 → z k = T7 k) → (∀ k, k < 116 → z k = h k) → jJ l G (Yx mX7_init) d 15 4416 131 121 [some (.ref 116), none] [] z (mK h) from key _ jup_same (fun k g1 g2 => by by_cases e : k = 130; (subst e; rw [jup_ne (by omega), jup_same]; rfl); (rw [jup_ne (by omega), jup_ne e]; exact a15 k g1 (by omega))) (fun k g => (jup_ne (by omega)).trans ((jup_ne (by omega)).trans (f15 k g)))
  intro h16 b16 a16 f16
  refine J_aload_n dX7_init_121 rfl ?_
  refine J_bipush (v := Int32.ofInt 124) dX7_init_122 (by decide) ?_
  refine J_newa (ci := 10) (N := 124) (bc := 14) (bs := 4292) dX7_init_124 (by decide) rfl (List.mem_of_getElem? (i := 104) (by decide +kernel)) (by decide) (by decide) (by decide) rfl (fun _ => rfl) ?_
  refine J_put dX7_init_126 f_X7_57 ((jup_ne (by omega)).trans b16) (Nat.le_of_ble_eq_true rfl) jfit_a ?_
  suffices key : ∀ z : jH, z 116 = (7, [.int 0, .int 0, .ref 117, .ref 118, .ref 119, .ref 120, .ref 121, .ref 122, .ref 123, .int 0, .int 0, .int 0, .int 0, vi (-1), .int 0, .ref 124, .ref 125, .int 0, .ref 126, .int 0, .ref 127, .int 0, .ref 128, .int 0, .int 0, .ref 129, .ref 130, .int 0, .ref 131, .int 0, .null, .null, .int 0, .int 0, .null, .null, .null, .null, .null, .int 0, .null, .null, .null, .int 0, .int 0, .int 0, .null, .null, .int 0, .null, .int 0, .null, .int 0]) → (∀ k, 116 < k → k < 132 → z k = T7 k) → (∀ k, k < 116 → z k = h k) → jJ l G (Yx mX7_init) d 14 4292 132 129 [some (.ref 116), none] [] z (mK h) from key _ jup_same (fun k g1 g2 => by by_cases e : k = 131; (subst e; rw [jup_ne (by omega), jup_same]; rfl); (rw [jup_ne (by omega), jup_ne e]; exact a16 k g1 (by omega))) (fun k g => (jup_ne (by omega)).trans ((jup_ne (by omega)).trans (f16 k g)))
  intro h17 b17 a17 f17
  refine J_aload_n dX7_init_129 rfl ?_
  refine J_bipush (v := Int32.ofInt 124) dX7_init_130 (by decide) ?_
  refine J_newa (ci := 10) (N := 124) (bc := 13) (bs := 4168) dX7_init_132 (by decide) rfl (List.mem_of_getElem? (i := 104) (by decide +kernel)) (by decide) (by decide) (by decide) rfl (fun _ => rfl) ?_
  refine J_put dX7_init_134 f_X7_60 ((jup_ne (by omega)).trans b17) (Nat.le_of_ble_eq_true rfl) jfit_a ?_
  suffices key : ∀ z : jH, z 116 = (7, [.int 0, .int 0, .ref 117, .ref 118, .ref 119, .ref 120, .ref 121, .ref 122, .ref 123, .int 0, .int 0, .int 0, .int 0, vi (-1), .int 0, .ref 124, .ref 125, .int 0, .ref 126, .int 0, .ref 127, .int 0, .ref 128, .int 0, .int 0, .ref 129, .ref 130, .int 0, .ref 131, .int 0, .ref 132, .null, .int 0, .int 0, .null, .null, .null, .null, .null, .int 0, .null, .null, .null, .int 0, .int 0, .int 0, .null, .null, .int 0, .null, .int 0, .null, .int 0]) → (∀ k, 116 < k → k < 133 → z k = T7 k) → (∀ k, k < 116 → z k = h k) → jJ l G (Yx mX7_init) d 13 4168 133 137 [some (.ref 116), none] [] z (mK h) from key _ jup_same (fun k g1 g2 => by by_cases e : k = 132; (subst e; rw [jup_ne (by omega), jup_same]; rfl); (rw [jup_ne (by omega), jup_ne e]; exact a17 k g1 (by omega))) (fun k g => (jup_ne (by omega)).trans ((jup_ne (by omega)).trans (f17 k g)))
  intro h18 b18 a18 f18
  refine J_aload_n dX7_init_137 rfl ?_
  refine J_sipush (v := Int32.ofInt 400) dX7_init_138 (by decide) ?_
  refine J_newa (ci := 10) (N := 400) (bc := 12) (bs := 3768) dX7_init_141 (by decide) rfl (List.mem_of_getElem? (i := 104) (by decide +kernel)) (by decide) (by decide) (by decide) rfl (fun _ => rfl) ?_
  refine J_put dX7_init_143 f_X7_63 ((jup_ne (by omega)).trans b18) (Nat.le_of_ble_eq_true rfl) jfit_a ?_
  suffices key : ∀ z : jH, z 116 = (7, [.int 0, .int 0, .ref 117, .ref 118, .ref 119, .ref 120, .ref 121, .ref 122, .ref 123, .int 0, .int 0, .int 0, .int 0, vi (-1), .int 0, .ref 124, .ref 125, .int 0, .ref 126, .int 0, .ref 127, .int 0, .ref 128, .int 0, .int 0, .ref 129, .ref 130, .int 0, .ref 131, .int 0, .ref 132, .ref 133, .int 0, .int 0, .null, .null, .null, .null, .null, .int 0, .null, .null, .null, .int 0, .int 0, .int 0, .null, .null, .int 0, .null, .int 0, .null, .int 0]) → (∀ k, 116 < k → k < 134 → z k = T7 k) → (∀ k, k < 116 → z k = h k) → jJ l G (Yx mX7_init) d 12 3768 134 146 [some (.ref 116), none] [] z (mK h) from key _ jup_same (fun k g1 g2 => by by_cases e : k = 133; (subst e; rw [jup_ne (by omega), jup_same]; rfl); (rw [jup_ne (by omega), jup_ne e]; exact a18 k g1 (by omega))) (fun k g => (jup_ne (by omega)).trans ((jup_ne (by omega)).trans (f18 k g)))
  intro h19 b19 a19 f19
  refine J_aload_n dX7_init_146 rfl ?_
  refine J_bipush (v := Int32.ofInt 20) dX7_init_147 (by decide) ?_
  refine J_newa (ci := 10) (N := 20) (bc := 11) (bs := 3748) dX7_init_149 (by decide) rfl (List.mem_of_getElem? (i := 104) (by decide +kernel)) (by decide) (by decide) (by decide) rfl (fun _ => rfl) ?_
  refine J_put dX7_init_151 f_X7_66 ((jup_ne (by omega)).trans b19) (Nat.le_of_ble_eq_true rfl) jfit_a ?_
  suffices key : ∀ z : jH, z 116 = (7, [.int 0, .int 0, .ref 117, .ref 118, .ref 119, .ref 120, .ref 121, .ref 122, .ref 123, .int 0, .int 0, .int 0, .int 0, vi (-1), .int 0, .ref 124, .ref 125, .int 0, .ref 126, .int 0, .ref 127, .int 0, .ref 128, .int 0, .int 0, .ref 129, .ref 130, .int 0, .ref 131, .int 0, .ref 132, .ref 133, .int 0, .int 0, .ref 134, .null, .null, .null, .null, .int 0, .null, .null, .null, .int 0, .int 0, .int 0, .null, .null, .int 0, .null, .int 0, .null, .int 0]) → (∀ k, 116 < k → k < 135 → z k = T7 k) → (∀ k, k < 116 → z k = h k) → jJ l G (Yx mX7_init) d 11 3748 135 154 [some (.ref 116), none] [] z (mK h) from key _ jup_same (fun k g1 g2 => by by_cases e : k = 134; (subst e; rw [jup_ne (by omega), jup_same]; rfl); (rw [jup_ne (by omega), jup_ne e]; exact a19 k g1 (by omega))) (fun k g => (jup_ne (by omega)).trans ((jup_ne (by omega)).trans (f19 k g)))
  intro h20 b20 a20 f20
  refine J_aload_n dX7_init_154 rfl ?_
  refine J_bipush (v := Int32.ofInt 20) dX7_init_155 (by decide) ?_
  refine J_newa (ci := 10) (N := 20) (bc := 10) (bs := 3728) dX7_init_157 (by decide) rfl (List.mem_of_getElem? (i := 104) (by decide +kernel)) (by decide) (by decide) (by decide) rfl (fun _ => rfl) ?_
  refine J_put dX7_init_159 f_X7_69 ((jup_ne (by omega)).trans b20) (Nat.le_of_ble_eq_true rfl) jfit_a ?_
  suffices key : ∀ z : jH, z 116 = (7, [.int 0, .int 0, .ref 117, .ref 118, .ref 119, .ref 120, .ref 121, .ref 122, .ref 123, .int 0, .int 0, .int 0, .int 0, vi (-1), .int 0, .ref 124, .ref 125, .int 0, .ref 126, .int 0, .ref 127, .int 0, .ref 128, .int 0, .int 0, .ref 129, .ref 130, .int 0, .ref 131, .int 0, .ref 132, .ref 133, .int 0, .int 0, .ref 134, .ref 135, .null, .null, .null, .int 0, .null, .null, .null, .int 0, .int 0, .int 0, .null, .null, .int 0, .null, .int 0, .null, .int 0]) → (∀ k, 116 < k → k < 136 → z k = T7 k) → (∀ k, k < 116 → z k = h k) → jJ l G (Yx mX7_init) d 10 3728 136 162 [some (.ref 116), none] [] z (mK h) from key _ jup_same (fun k g1 g2 => by by_cases e : k = 135; (subst e; rw [jup_ne (by omega), jup_same]; rfl); (rw [jup_ne (by omega), jup_ne e]; exact a20 k g1 (by omega))) (fun k g => (jup_ne (by omega)).trans ((jup_ne (by omega)).trans (f20 k g)))
  intro h21 b21 a21 f21
  refine J_aload_n dX7_init_162 rfl ?_
  refine J_bipush (v := Int32.ofInt 20) dX7_init_163 (by decide) ?_
  refine J_newa (ci := 10) (N := 20) (bc := 9) (bs := 3708) dX7_init_165 (by decide) rfl (List.mem_of_getElem? (i := 104) (by decide +kernel)) (by decide) (by decide) (by decide) rfl (fun _ => rfl) ?_
  refine J_put dX7_init_167 f_X7_72 ((jup_ne (by omega)).trans b21) (Nat.le_of_ble_eq_true rfl) jfit_a ?_
  suffices key : ∀ z : jH, z 116 = (7, [.int 0, .int 0, .ref 117, .ref 118, .ref 119, .ref 120, .ref 121, .ref 122, .ref 123, .int 0, .int 0, .int 0, .int 0, vi (-1), .int 0, .ref 124, .ref 125, .int 0, .ref 126, .int 0, .ref 127, .int 0, .ref 128, .int 0, .int 0, .ref 129, .ref 130, .int 0, .ref 131, .int 0, .ref 132, .ref 133, .int 0, .int 0, .ref 134, .ref 135, .ref 136, .null, .null, .int 0, .null, .null, .null, .int 0, .int 0, .int 0, .null, .null, .int 0, .null, .int 0, .null, .int 0]) → (∀ k, 116 < k → k < 137 → z k = T7 k) → (∀ k, k < 116 → z k = h k) → jJ l G (Yx mX7_init) d 9 3708 137 170 [some (.ref 116), none] [] z (mK h) from key _ jup_same (fun k g1 g2 => by by_cases e : k = 136; (subst e; rw [jup_ne (by omega), jup_same]; rfl); (rw [jup_ne (by omega), jup_ne e]; exact a21 k g1 (by omega))) (fun k g => (jup_ne (by omega)).trans ((jup_ne (by omega)).trans (f21 k g)))
  intro h22 b22 a22 f22
  refine J_aload_n dX7_init_170 rfl ?_
  refine J_bipush (v := Int32.ofInt 20) dX7_init_171 (by decide) ?_
  refine J_newa (ci := 10) (N := 20) (bc := 8) (bs := 3688) dX7_init_173 (by decide) rfl (List.mem_of_getElem? (i := 104) (by decide +kernel)) (by decide) (by decide) (by decide) rfl (fun _ => rfl) ?_
  refine J_put dX7_init_175 f_X7_75 ((jup_ne (by omega)).trans b22) (Nat.le_of_ble_eq_true rfl) jfit_a ?_
  suffices key : ∀ z : jH, z 116 = (7, [.int 0, .int 0, .ref 117, .ref 118, .ref 119, .ref 120, .ref 121, .ref 122, .ref 123, .int 0, .int 0, .int 0, .int 0, vi (-1), .int 0, .ref 124, .ref 125, .int 0, .ref 126, .int 0, .ref 127, .int 0, .ref 128, .int 0, .int 0, .ref 129, .ref 130, .int 0, .ref 131, .int 0, .ref 132, .ref 133, .int 0, .int 0, .ref 134, .ref 135, .ref 136, .ref 137, .null, .int 0, .null, .null, .null, .int 0, .int 0, .int 0, .null, .null, .int 0, .null, .int 0, .null, .int 0]) → (∀ k, 116 < k → k < 138 → z k = T7 k) → (∀ k, k < 116 → z k = h k) → jJ l G (Yx mX7_init) d 8 3688 138 178 [some (.ref 116), none] [] z (mK h) from key _ jup_same (fun k g1 g2 => by by_cases e : k = 137; (subst e; rw [jup_ne (by omega), jup_same]; rfl); (rw [jup_ne (by omega), jup_ne e]; exact a22 k g1 (by omega))) (fun k g => (jup_ne (by omega)).trans ((jup_ne (by omega)).trans (f22 k g)))
  intro h23 b23 a23 f23
  refine J_aload_n dX7_init_178 rfl ?_
  refine J_bipush (v := Int32.ofInt 20) dX7_init_179 (by decide) ?_
  refine J_newa (ci := 10) (N := 20) (bc := 7) (bs := 3668) dX7_init_181 (by decide) rfl (List.mem_of_getElem? (i := 104) (by decide +kernel)) (by decide) (by decide) (by decide) rfl (fun _ => rfl) ?_
  refine J_put dX7_init_183 f_X7_78 ((jup_ne (by omega)).trans b23) (Nat.le_of_ble_eq_true rfl) jfit_a ?_
  suffices key : ∀ z : jH, z 116 = (7, [.int 0, .int 0, .ref 117, .ref 118, .ref 119, .ref 120, .ref 121, .ref 122, .ref 123, .int 0, .int 0, .int 0, .int 0, vi (-1), .int 0, .ref 124, .ref 125, .int 0, .ref 126, .int 0, .ref 127, .int 0, .ref 128, .int 0, .int 0, .ref 129, .ref 130, .int 0, .ref 131, .int 0, .ref 132, .ref 133, .int 0, .int 0, .ref 134, .ref 135, .ref 136, .ref 137, .ref 138, .int 0, .null, .null, .null, .int 0, .int 0, .int 0, .null, .null, .int 0, .null, .int 0, .null, .int 0]) → (∀ k, 116 < k → k < 139 → z k = T7 k) → (∀ k, k < 116 → z k = h k) → jJ l G (Yx mX7_init) d 7 3668 139 186 [some (.ref 116), none] [] z (mK h) from key _ jup_same (fun k g1 g2 => by by_cases e : k = 138; (subst e; rw [jup_ne (by omega), jup_same]; rfl); (rw [jup_ne (by omega), jup_ne e]; exact a23 k g1 (by omega))) (fun k g => (jup_ne (by omega)).trans ((jup_ne (by omega)).trans (f23 k g)))
  intro h24 b24 a24 f24
  refine J_aload_n dX7_init_186 rfl ?_
  refine J_bipush (v := Int32.ofInt 20) dX7_init_187 (by decide) ?_
  refine J_newa (ci := 10) (N := 20) (bc := 6) (bs := 3648) dX7_init_189 (by decide) rfl (List.mem_of_getElem? (i := 104) (by decide +kernel)) (by decide) (by decide) (by decide) rfl (fun _ => rfl) ?_
  refine J_put dX7_init_191 f_X7_81 ((jup_ne (by omega)).trans b24) (Nat.le_of_ble_eq_true rfl) jfit_a ?_
  suffices key : ∀ z : jH, z 116 = (7, [.int 0, .int 0, .ref 117, .ref 118, .ref 119, .ref 120, .ref 121, .ref 122, .ref 123, .int 0, .int 0, .int 0, .int 0, vi (-1), .int 0, .ref 124, .ref 125, .int 0, .ref 126, .int 0, .ref 127, .int 0, .ref 128, .int 0, .int 0, .ref 129, .ref 130, .int 0, .ref 131, .int 0, .ref 132, .ref 133, .int 0, .int 0, .ref 134, .ref 135, .ref 136, .ref 137, .ref 138, .int 0, .ref 139, .null, .null, .int 0, .int 0, .int 0, .null, .null, .int 0, .null, .int 0, .null, .int 0]) → (∀ k, 116 < k → k < 140 → z k = T7 k) → (∀ k, k < 116 → z k = h k) → jJ l G (Yx mX7_init) d 6 3648 140 194 [some (.ref 116), none] [] z (mK h) from key _ jup_same (fun k g1 g2 => by by_cases e : k = 139; (subst e; rw [jup_ne (by omega), jup_same]; rfl); (rw [jup_ne (by omega), jup_ne e]; exact a24 k g1 (by omega))) (fun k g => (jup_ne (by omega)).trans ((jup_ne (by omega)).trans (f24 k g)))
  intro h25 b25 a25 f25
  refine J_aload_n dX7_init_194 rfl ?_
  refine J_bipush (v := Int32.ofInt 20) dX7_init_195 (by decide) ?_
  refine J_newa (ci := 10) (N := 20) (bc := 5) (bs := 3628) dX7_init_197 (by decide) rfl (List.mem_of_getElem? (i := 104) (by decide +kernel)) (by decide) (by decide) (by decide) rfl (fun _ => rfl) ?_
  refine J_put dX7_init_199 f_X7_84 ((jup_ne (by omega)).trans b25) (Nat.le_of_ble_eq_true rfl) jfit_a ?_
  suffices key : ∀ z : jH, z 116 = (7, [.int 0, .int 0, .ref 117, .ref 118, .ref 119, .ref 120, .ref 121, .ref 122, .ref 123, .int 0, .int 0, .int 0, .int 0, vi (-1), .int 0, .ref 124, .ref 125, .int 0, .ref 126, .int 0, .ref 127, .int 0, .ref 128, .int 0, .int 0, .ref 129, .ref 130, .int 0, .ref 131, .int 0, .ref 132, .ref 133, .int 0, .int 0, .ref 134, .ref 135, .ref 136, .ref 137, .ref 138, .int 0, .ref 139, .ref 140, .null, .int 0, .int 0, .int 0, .null, .null, .int 0, .null, .int 0, .null, .int 0]) → (∀ k, 116 < k → k < 141 → z k = T7 k) → (∀ k, k < 116 → z k = h k) → jJ l G (Yx mX7_init) d 5 3628 141 202 [some (.ref 116), none] [] z (mK h) from key _ jup_same (fun k g1 g2 => by by_cases e : k = 140; (subst e; rw [jup_ne (by omega), jup_same]; rfl); (rw [jup_ne (by omega), jup_ne e]; exact a25 k g1 (by omega))) (fun k g => (jup_ne (by omega)).trans ((jup_ne (by omega)).trans (f25 k g)))
  intro h26 b26 a26 f26
  refine J_aload_n dX7_init_202 rfl ?_
  refine J_bipush (v := Int32.ofInt 20) dX7_init_203 (by decide) ?_
  refine J_newa (ci := 10) (N := 20) (bc := 4) (bs := 3608) dX7_init_205 (by decide) rfl (List.mem_of_getElem? (i := 104) (by decide +kernel)) (by decide) (by decide) (by decide) rfl (fun _ => rfl) ?_
  refine J_put dX7_init_207 f_X7_87 ((jup_ne (by omega)).trans b26) (Nat.le_of_ble_eq_true rfl) jfit_a ?_
  suffices key : ∀ z : jH, z 116 = (7, [.int 0, .int 0, .ref 117, .ref 118, .ref 119, .ref 120, .ref 121, .ref 122, .ref 123, .int 0, .int 0, .int 0, .int 0, vi (-1), .int 0, .ref 124, .ref 125, .int 0, .ref 126, .int 0, .ref 127, .int 0, .ref 128, .int 0, .int 0, .ref 129, .ref 130, .int 0, .ref 131, .int 0, .ref 132, .ref 133, .int 0, .int 0, .ref 134, .ref 135, .ref 136, .ref 137, .ref 138, .int 0, .ref 139, .ref 140, .ref 141, .int 0, .int 0, .int 0, .null, .null, .int 0, .null, .int 0, .null, .int 0]) → (∀ k, 116 < k → k < 142 → z k = T7 k) → (∀ k, k < 116 → z k = h k) → jJ l G (Yx mX7_init) d 4 3608 142 210 [some (.ref 116), none] [] z (mK h) from key _ jup_same (fun k g1 g2 => by by_cases e : k = 141; (subst e; rw [jup_ne (by omega), jup_same]; rfl); (rw [jup_ne (by omega), jup_ne e]; exact a26 k g1 (by omega))) (fun k g => (jup_ne (by omega)).trans ((jup_ne (by omega)).trans (f26 k g)))
  intro h27 b27 a27 f27
  refine J_aload_n dX7_init_210 rfl ?_
  refine J_iconst (v := Int32.ofInt 4) dX7_init_211 (by decide) ?_
  refine J_newa (ci := 10) (N := 4) (bc := 3) (bs := 3604) dX7_init_212 (by decide) rfl (List.mem_of_getElem? (i := 104) (by decide +kernel)) (by decide) (by decide) (by decide) rfl (fun _ => rfl) ?_
  refine J_put dX7_init_214 f_X7_90 ((jup_ne (by omega)).trans b27) (Nat.le_of_ble_eq_true rfl) jfit_a ?_
  suffices key : ∀ z : jH, z 116 = (7, [.int 0, .int 0, .ref 117, .ref 118, .ref 119, .ref 120, .ref 121, .ref 122, .ref 123, .int 0, .int 0, .int 0, .int 0, vi (-1), .int 0, .ref 124, .ref 125, .int 0, .ref 126, .int 0, .ref 127, .int 0, .ref 128, .int 0, .int 0, .ref 129, .ref 130, .int 0, .ref 131, .int 0, .ref 132, .ref 133, .int 0, .int 0, .ref 134, .ref 135, .ref 136, .ref 137, .ref 138, .int 0, .ref 139, .ref 140, .ref 141, .int 0, .int 0, .int 0, .ref 142, .null, .int 0, .null, .int 0, .null, .int 0]) → (∀ k, 116 < k → k < 143 → z k = T7 k) → (∀ k, k < 116 → z k = h k) → jJ l G (Yx mX7_init) d 3 3604 143 217 [some (.ref 116), none] [] z (mK h) from key _ jup_same (fun k g1 g2 => by by_cases e : k = 142; (subst e; rw [jup_ne (by omega), jup_same]; rfl); (rw [jup_ne (by omega), jup_ne e]; exact a27 k g1 (by omega))) (fun k g => (jup_ne (by omega)).trans ((jup_ne (by omega)).trans (f27 k g)))
  intro h28 b28 a28 f28
  refine J_aload_n dX7_init_217 rfl ?_
  refine J_iconst (v := Int32.ofInt 4) dX7_init_218 (by decide) ?_
  refine J_newa (ci := 10) (N := 4) (bc := 2) (bs := 3600) dX7_init_219 (by decide) rfl (List.mem_of_getElem? (i := 104) (by decide +kernel)) (by decide) (by decide) (by decide) rfl (fun _ => rfl) ?_
  refine J_put dX7_init_221 f_X7_93 ((jup_ne (by omega)).trans b28) (Nat.le_of_ble_eq_true rfl) jfit_a ?_
  suffices key : ∀ z : jH, z 116 = (7, [.int 0, .int 0, .ref 117, .ref 118, .ref 119, .ref 120, .ref 121, .ref 122, .ref 123, .int 0, .int 0, .int 0, .int 0, vi (-1), .int 0, .ref 124, .ref 125, .int 0, .ref 126, .int 0, .ref 127, .int 0, .ref 128, .int 0, .int 0, .ref 129, .ref 130, .int 0, .ref 131, .int 0, .ref 132, .ref 133, .int 0, .int 0, .ref 134, .ref 135, .ref 136, .ref 137, .ref 138, .int 0, .ref 139, .ref 140, .ref 141, .int 0, .int 0, .int 0, .ref 142, .ref 143, .int 0, .null, .int 0, .null, .int 0]) → (∀ k, 116 < k → k < 144 → z k = T7 k) → (∀ k, k < 116 → z k = h k) → jJ l G (Yx mX7_init) d 2 3600 144 224 [some (.ref 116), none] [] z (mK h) from key _ jup_same (fun k g1 g2 => by by_cases e : k = 143; (subst e; rw [jup_ne (by omega), jup_same]; rfl); (rw [jup_ne (by omega), jup_ne e]; exact a28 k g1 (by omega))) (fun k g => (jup_ne (by omega)).trans ((jup_ne (by omega)).trans (f28 k g)))
  intro h29 b29 a29 f29
  refine J_aload_n dX7_init_224 rfl ?_
  refine J_sipush (v := Int32.ofInt 1200) dX7_init_225 (by decide) ?_
  refine J_newa (ci := 10) (N := 1200) (bc := 1) (bs := 2400) dX7_init_228 (by decide) rfl (List.mem_of_getElem? (i := 104) (by decide +kernel)) (by decide) (by decide) (by decide) rfl (fun _ => rfl) ?_
  refine J_put dX7_init_230 f_X7_96 ((jup_ne (by omega)).trans b29) (Nat.le_of_ble_eq_true rfl) jfit_a ?_
  suffices key : ∀ z : jH, z 116 = (7, [.int 0, .int 0, .ref 117, .ref 118, .ref 119, .ref 120, .ref 121, .ref 122, .ref 123, .int 0, .int 0, .int 0, .int 0, vi (-1), .int 0, .ref 124, .ref 125, .int 0, .ref 126, .int 0, .ref 127, .int 0, .ref 128, .int 0, .int 0, .ref 129, .ref 130, .int 0, .ref 131, .int 0, .ref 132, .ref 133, .int 0, .int 0, .ref 134, .ref 135, .ref 136, .ref 137, .ref 138, .int 0, .ref 139, .ref 140, .ref 141, .int 0, .int 0, .int 0, .ref 142, .ref 143, .int 0, .ref 144, .int 0, .null, .int 0]) → (∀ k, 116 < k → k < 145 → z k = T7 k) → (∀ k, k < 116 → z k = h k) → jJ l G (Yx mX7_init) d 1 2400 145 233 [some (.ref 116), none] [] z (mK h) from key _ jup_same (fun k g1 g2 => by by_cases e : k = 144; (subst e; rw [jup_ne (by omega), jup_same]; rfl); (rw [jup_ne (by omega), jup_ne e]; exact a29 k g1 (by omega))) (fun k g => (jup_ne (by omega)).trans ((jup_ne (by omega)).trans (f29 k g)))
  intro h30 b30 a30 f30
  refine J_aload_n dX7_init_233 rfl ?_
  refine J_sipush (v := Int32.ofInt 2400) dX7_init_234 (by decide) ?_
  refine J_newa (ci := 10) (N := 2400) (bc := 0) (bs := 0) dX7_init_237 (by decide) rfl (List.mem_of_getElem? (i := 104) (by decide +kernel)) (by decide) (by decide) (by decide) rfl (fun _ => rfl) ?_
  refine J_put dX7_init_239 f_X7_99 ((jup_ne (by omega)).trans b30) (Nat.le_of_ble_eq_true rfl) jfit_a ?_
  suffices key : ∀ z : jH, z 116 = (7, [.int 0, .int 0, .ref 117, .ref 118, .ref 119, .ref 120, .ref 121, .ref 122, .ref 123, .int 0, .int 0, .int 0, .int 0, vi (-1), .int 0, .ref 124, .ref 125, .int 0, .ref 126, .int 0, .ref 127, .int 0, .ref 128, .int 0, .int 0, .ref 129, .ref 130, .int 0, .ref 131, .int 0, .ref 132, .ref 133, .int 0, .int 0, .ref 134, .ref 135, .ref 136, .ref 137, .ref 138, .int 0, .ref 139, .ref 140, .ref 141, .int 0, .int 0, .int 0, .ref 142, .ref 143, .int 0, .ref 144, .int 0, .ref 145, .int 0]) → (∀ k, 116 < k → k < 146 → z k = T7 k) → (∀ k, k < 116 → z k = h k) → jJ l G (Yx mX7_init) d 0 0 146 242 [some (.ref 116), none] [] z (mK h) from key _ jup_same (fun k g1 g2 => by by_cases e : k = 145; (subst e; rw [jup_ne (by omega), jup_same]; rfl); (rw [jup_ne (by omega), jup_ne e]; exact a30 k g1 (by omega))) (fun k g => (jup_ne (by omega)).trans ((jup_ne (by omega)).trans (f30 k g)))
  intro h31 b31 a31 f31
  refine J_iconst (v := Int32.ofInt 0) dX7_init_242 (by decide) ?_
  refine J_istore_n dX7_init_243 (by decide) rfl ?_
  suffices key : ∀ z : jH, z 116 = (7, [.int 0, .int 0, .ref 117, .ref 118, .ref 119, .ref 120, .ref 121, .ref 122, .ref 123, .int 0, .int 0, .int 0, .int 0, vi (-1), .int 0, .ref 124, .ref 125, .int 0, .ref 126, .int 0, .ref 127, .int 0, .ref 128, .int 0, .int 0, .ref 129, .ref 130, .int 0, .ref 131, .int 0, .ref 132, .ref 133, .int 0, .int 0, .ref 134, .ref 135, .ref 136, .ref 137, .ref 138, .int 0, .ref 139, .ref 140, .ref 141, .int 0, .int 0, .int 0, .ref 142, .ref 143, .int 0, .ref 144, .int 0, .ref 145, .int 0]) → (∀ k, 116 < k → k < 146 → k ≠ 123 → z k = T7 k) → z 123 = (10, [.int 0, .int 0, .int 0, .int 0]) → (∀ k, k < 116 → z k = h k) → jJ l G (Yx mX7_init) d 0 0 146 244 [some (.ref 116), some (vi 0)] [] z (mK h) from key _ b31 (fun k g1 g2 _ => a31 k g1 g2) ((a31 123 (by omega) (by omega)).trans rfl) f31
  intro h32 b32 a32 c32 f32
  refine J_iload_n dX7_init_244 rfl ?_
  refine J_iconst (v := Int32.ofInt 4) dX7_init_245 (by decide) ?_
  refine J_icmp_ge (tgt := 262) dX7_init_246 (by decide) (fun z => absurd z (by decide)) (fun z => ?_)
  refine J_aload_n dX7_init_249 rfl ?_
  refine J_get dX7_init_250 f_X7_29 b32 rfl ?_
  refine J_iload_n dX7_init_253 rfl ?_
  refine J_iconst (v := Int32.ofInt (-1)) dX7_init_254 (by decide) ?_
  refine J_iast dX7_init_255 c32 (by decide) (by decide) ?_
  refine J_iinc (v := Int32.ofInt 1) dX7_init_256 rfl (by decide) (by decide) rfl ?_
  refine J_goto (tgt := 244) dX7_init_259 (by decide) ?_
  suffices key : ∀ z : jH, z 116 = (7, [.int 0, .int 0, .ref 117, .ref 118, .ref 119, .ref 120, .ref 121, .ref 122, .ref 123, .int 0, .int 0, .int 0, .int 0, vi (-1), .int 0, .ref 124, .ref 125, .int 0, .ref 126, .int 0, .ref 127, .int 0, .ref 128, .int 0, .int 0, .ref 129, .ref 130, .int 0, .ref 131, .int 0, .ref 132, .ref 133, .int 0, .int 0, .ref 134, .ref 135, .ref 136, .ref 137, .ref 138, .int 0, .ref 139, .ref 140, .ref 141, .int 0, .int 0, .int 0, .ref 142, .ref 143, .int 0, .ref 144, .int 0, .ref 145, .int 0]) → (∀ k, 116 < k → k < 146 → k ≠ 123 → z k = T7 k) → z 123 = (10, [vi (-1), .int 0, .int 0, .int 0]) → (∀ k, k < 116 → z k = h k) → jJ l G (Yx mX7_init) d 0 0 146 244 [some (.ref 116), some (vi 1)] [] z (mK h) from key _ ((jup_ne (by omega)).trans b32) (fun k g1 g2 g3 => (jup_ne g3).trans (a32 k g1 g2 g3)) (jup_same.trans rfl) (fun k g => (jup_ne (by omega)).trans (f32 k g))
  intro h33 b33 a33 c33 f33
  refine J_iload_n dX7_init_244 rfl ?_
  refine J_iconst (v := Int32.ofInt 4) dX7_init_245 (by decide) ?_
  refine J_icmp_ge (tgt := 262) dX7_init_246 (by decide) (fun z => absurd z (by decide)) (fun z => ?_)
  refine J_aload_n dX7_init_249 rfl ?_
  refine J_get dX7_init_250 f_X7_29 b33 rfl ?_
  refine J_iload_n dX7_init_253 rfl ?_
  refine J_iconst (v := Int32.ofInt (-1)) dX7_init_254 (by decide) ?_
  refine J_iast dX7_init_255 c33 (by decide) (by decide) ?_
  refine J_iinc (v := Int32.ofInt 2) dX7_init_256 rfl (by decide) (by decide) rfl ?_
  refine J_goto (tgt := 244) dX7_init_259 (by decide) ?_
  suffices key : ∀ z : jH, z 116 = (7, [.int 0, .int 0, .ref 117, .ref 118, .ref 119, .ref 120, .ref 121, .ref 122, .ref 123, .int 0, .int 0, .int 0, .int 0, vi (-1), .int 0, .ref 124, .ref 125, .int 0, .ref 126, .int 0, .ref 127, .int 0, .ref 128, .int 0, .int 0, .ref 129, .ref 130, .int 0, .ref 131, .int 0, .ref 132, .ref 133, .int 0, .int 0, .ref 134, .ref 135, .ref 136, .ref 137, .ref 138, .int 0, .ref 139, .ref 140, .ref 141, .int 0, .int 0, .int 0, .ref 142, .ref 143, .int 0, .ref 144, .int 0, .ref 145, .int 0]) → (∀ k, 116 < k → k < 146 → k ≠ 123 → z k = T7 k) → z 123 = (10, [vi (-1), vi (-1), .int 0, .int 0]) → (∀ k, k < 116 → z k = h k) → jJ l G (Yx mX7_init) d 0 0 146 244 [some (.ref 116), some (vi 2)] [] z (mK h) from key _ ((jup_ne (by omega)).trans b33) (fun k g1 g2 g3 => (jup_ne g3).trans (a33 k g1 g2 g3)) (jup_same.trans rfl) (fun k g => (jup_ne (by omega)).trans (f33 k g))
  intro h34 b34 a34 c34 f34
  refine J_iload_n dX7_init_244 rfl ?_
  refine J_iconst (v := Int32.ofInt 4) dX7_init_245 (by decide) ?_
  refine J_icmp_ge (tgt := 262) dX7_init_246 (by decide) (fun z => absurd z (by decide)) (fun z => ?_)
  refine J_aload_n dX7_init_249 rfl ?_
  refine J_get dX7_init_250 f_X7_29 b34 rfl ?_
  refine J_iload_n dX7_init_253 rfl ?_
  refine J_iconst (v := Int32.ofInt (-1)) dX7_init_254 (by decide) ?_
  refine J_iast dX7_init_255 c34 (by decide) (by decide) ?_
  refine J_iinc (v := Int32.ofInt 3) dX7_init_256 rfl (by decide) (by decide) rfl ?_
  refine J_goto (tgt := 244) dX7_init_259 (by decide) ?_
  suffices key : ∀ z : jH, z 116 = (7, [.int 0, .int 0, .ref 117, .ref 118, .ref 119, .ref 120, .ref 121, .ref 122, .ref 123, .int 0, .int 0, .int 0, .int 0, vi (-1), .int 0, .ref 124, .ref 125, .int 0, .ref 126, .int 0, .ref 127, .int 0, .ref 128, .int 0, .int 0, .ref 129, .ref 130, .int 0, .ref 131, .int 0, .ref 132, .ref 133, .int 0, .int 0, .ref 134, .ref 135, .ref 136, .ref 137, .ref 138, .int 0, .ref 139, .ref 140, .ref 141, .int 0, .int 0, .int 0, .ref 142, .ref 143, .int 0, .ref 144, .int 0, .ref 145, .int 0]) → (∀ k, 116 < k → k < 146 → k ≠ 123 → z k = T7 k) → z 123 = (10, [vi (-1), vi (-1), vi (-1), .int 0]) → (∀ k, k < 116 → z k = h k) → jJ l G (Yx mX7_init) d 0 0 146 244 [some (.ref 116), some (vi 3)] [] z (mK h) from key _ ((jup_ne (by omega)).trans b34) (fun k g1 g2 g3 => (jup_ne g3).trans (a34 k g1 g2 g3)) (jup_same.trans rfl) (fun k g => (jup_ne (by omega)).trans (f34 k g))
  intro h35 b35 a35 c35 f35
  refine J_iload_n dX7_init_244 rfl ?_
  refine J_iconst (v := Int32.ofInt 4) dX7_init_245 (by decide) ?_
  refine J_icmp_ge (tgt := 262) dX7_init_246 (by decide) (fun z => absurd z (by decide)) (fun z => ?_)
  refine J_aload_n dX7_init_249 rfl ?_
  refine J_get dX7_init_250 f_X7_29 b35 rfl ?_
  refine J_iload_n dX7_init_253 rfl ?_
  refine J_iconst (v := Int32.ofInt (-1)) dX7_init_254 (by decide) ?_
  refine J_iast dX7_init_255 c35 (by decide) (by decide) ?_
  refine J_iinc (v := Int32.ofInt 4) dX7_init_256 rfl (by decide) (by decide) rfl ?_
  refine J_goto (tgt := 244) dX7_init_259 (by decide) ?_
  suffices key : ∀ z : jH, z 116 = (7, [.int 0, .int 0, .ref 117, .ref 118, .ref 119, .ref 120, .ref 121, .ref 122, .ref 123, .int 0, .int 0, .int 0, .int 0, vi (-1), .int 0, .ref 124, .ref 125, .int 0, .ref 126, .int 0, .ref 127, .int 0, .ref 128, .int 0, .int 0, .ref 129, .ref 130, .int 0, .ref 131, .int 0, .ref 132, .ref 133, .int 0, .int 0, .ref 134, .ref 135, .ref 136, .ref 137, .ref 138, .int 0, .ref 139, .ref 140, .ref 141, .int 0, .int 0, .int 0, .ref 142, .ref 143, .int 0, .ref 144, .int 0, .ref 145, .int 0]) → (∀ k, 116 < k → k < 146 → k ≠ 123 → z k = T7 k) → z 123 = (10, [vi (-1), vi (-1), vi (-1), vi (-1)]) → (∀ k, k < 116 → z k = h k) → jJ l G (Yx mX7_init) d 0 0 146 244 [some (.ref 116), some (vi 4)] [] z (mK h) from key _ ((jup_ne (by omega)).trans b35) (fun k g1 g2 g3 => (jup_ne g3).trans (a35 k g1 g2 g3)) (jup_same.trans rfl) (fun k g => (jup_ne (by omega)).trans (f35 k g))
  intro h36 b36 a36 c36 f36
  refine J_iload_n dX7_init_244 rfl ?_
  refine J_iconst (v := Int32.ofInt 4) dX7_init_245 (by decide) ?_
  refine J_icmp_ge (tgt := 262) dX7_init_246 (by decide) (fun z => ?_) (fun z => absurd (by decide) z)
  exact J_vret dX7_init_262 rfl ⟨rfl, rfl, by rw [b36]; simp only [← vi0]; rfl, fun k g1 g2 g3 => a36 k (by omega) g2 g3, c36, f36⟩
