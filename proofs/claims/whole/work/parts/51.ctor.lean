theorem vi0 : vi 0 = .int 0 := by show Value.int (iz 0) = _; rw [iz_0]
/-- what stands at a position of the class when it was made -/
def T0 (k : Nat) : Nat × List Value := if kd k = 3 then (3, [.ref (k + 1), vi 0]) else if kd k = 10 then (10, List.replicate (cap (k - 1)) (.int 0)) else if kd k = 2 then (2, [.ref (k + 1), .ref (k + 3), .ref (k + 5), .ref (k + 7), .ref (k + 9)]) else if kd k = 0 then (0, [.ref (k + 1), .ref (k + 12), .ref (k + 14), .ref (k + 16), .ref (k + 18), .ref (k + 20), .ref (k + 22), .ref (k + 24), .ref (k + 26), .ref (k + 28), vi 0, vi 0]) else if kd k = 4 then (4, [.ref (k + 1), .ref (k + 3), .ref (k + 5), .ref (k + 7), vi (-1), vi 0, .ref (k + 9), vi (-1), vi (-1)]) else if kd k = 5 then (5, [.ref (k + 1), vi 0, vi 0, vi 0, vi 0, vi 0]) else if kd k = 1 then (1, [.ref (k + 1)]) else if kd k = 13 then (13, [.ref 72, .ref 83, .ref 94, .ref 105]) else (6, [.ref 2, .ref 5, .ref 6, .ref 9, .ref 12, .ref 42, vi 0, vi (-1)])
def cK (p q : Nat) (h : jH) : jK := fun o n' h' => o = .inl none ∧ n' = q ∧ (∀ k, p ≤ k → k < q → h' k = T0 k) ∧ (∀ k, k < p → h' k = h k)
theorem gen3 {J : jH → Prop} {p q : Nat} {T : Nat → Nat × List Value} {c : Nat × List Value} {h0 h : jH} (kk : ∀ h, h p = c → (∀ k, p < k → k < q → h k = T k) → (∀ k, k < p → h k = h0 k) → J h) (b : h p = c) (a : ∀ k, p < k → k < q → h k = T k) (f : ∀ k, k < p → h k = h0 k) : J h := kk h b a f
theorem rg_step {h h' : jH} {p r q : Nat} {c : Nat × List Value} {T : Nat → Nat × List Value} (ha : ∀ k, p < k → k < r → h k = T k) (qa : ∀ k, r ≤ k → k < q → h' k = T k) (qb : ∀ k, k < r → h' k = jup h r c k) : ∀ k, p < k → k < q → h' k = T k := fun k h1 h2 => by
  rcases Nat.lt_or_ge k r with g | g
  · rw [qb k g, jup_ne (by omega)]; exact ha k h1 g
  · exact qa k g h2
theorem T0_row {r : Nat} (hr : kd r = 3) : T0 r = (3, [.ref (r + 1), vi 0]) ∧ T0 (r + 1) = (10, List.replicate (cap r) (.int 0)) := by
  have h := kd_row hr
  unfold T0
  rw [if_pos hr, if_neg (by rw [h.1]; decide), if_pos h.1]
  exact ⟨rfl, rfl⟩
theorem T0_2 {p : Nat} (hp : kd p = 2) : T0 p = (2, [.ref (p + 1), .ref (p + 3), .ref (p + 5), .ref (p + 7), .ref (p + 9)]) := by simp [T0, hp]
theorem T0_0 {p : Nat} (hp : kd p = 0) : T0 p = (0, [.ref (p + 1), .ref (p + 12), .ref (p + 14), .ref (p + 16), .ref (p + 18), .ref (p + 20), .ref (p + 22), .ref (p + 24), .ref (p + 26), .ref (p + 28), vi 0, vi 0]) := by simp [T0, hp]
theorem T0_4 {p : Nat} (hp : kd p = 4) : T0 p = (4, [.ref (p + 1), .ref (p + 3), .ref (p + 5), .ref (p + 7), vi (-1), vi 0, .ref (p + 9), vi (-1), vi (-1)]) := by simp [T0, hp]
theorem T0_5 {p : Nat} (hp : kd p = 5) : T0 p = (5, [.ref (p + 1), vi 0, vi 0, vi 0, vi 0, vi 0]) := by simp [T0, hp]
theorem T0_1 {p : Nat} (hp : kd p = 1) : T0 p = (1, [.ref (p + 1)]) := by simp [T0, hp]
theorem cap2_1 {p : Nat} (hp : kd p = 2) : cap (p + 1) = 40 := kd_all (c := 2) (Q := fun p => cap (p + 1) = 40) (by decide) (by decide) hp
theorem cap2_3 {p : Nat} (hp : kd p = 2) : cap (p + 3) = 41 := kd_all (c := 2) (Q := fun p => cap (p + 3) = 41) (by decide) (by decide) hp
theorem cap2_5 {p : Nat} (hp : kd p = 2) : cap (p + 5) = 121 := kd_all (c := 2) (Q := fun p => cap (p + 5) = 121) (by decide) (by decide) hp
theorem cap2_7 {p : Nat} (hp : kd p = 2) : cap (p + 7) = 121 := kd_all (c := 2) (Q := fun p => cap (p + 7) = 121) (by decide) (by decide) hp
theorem cap2_9 {p : Nat} (hp : kd p = 2) : cap (p + 9) = 400 := kd_all (c := 2) (Q := fun p => cap (p + 9) = 400) (by decide) (by decide) hp
theorem cap0_12 {p : Nat} (hp : kd p = 0) : cap (p + 12) = 19 := kd_all (c := 0) (Q := fun p => cap (p + 12) = 19) (by decide) (by decide) hp
theorem cap0_14 {p : Nat} (hp : kd p = 0) : cap (p + 14) = 19 := kd_all (c := 0) (Q := fun p => cap (p + 14) = 19) (by decide) (by decide) hp
theorem cap0_16 {p : Nat} (hp : kd p = 0) : cap (p + 16) = 19 := kd_all (c := 0) (Q := fun p => cap (p + 16) = 19) (by decide) (by decide) hp
theorem cap0_18 {p : Nat} (hp : kd p = 0) : cap (p + 18) = 19 := kd_all (c := 0) (Q := fun p => cap (p + 18) = 19) (by decide) (by decide) hp
theorem cap0_20 {p : Nat} (hp : kd p = 0) : cap (p + 20) = 19 := kd_all (c := 0) (Q := fun p => cap (p + 20) = 19) (by decide) (by decide) hp
theorem cap0_22 {p : Nat} (hp : kd p = 0) : cap (p + 22) = 9 := kd_all (c := 0) (Q := fun p => cap (p + 22) = 9) (by decide) (by decide) hp
theorem cap0_24 {p : Nat} (hp : kd p = 0) : cap (p + 24) = 9 := kd_all (c := 0) (Q := fun p => cap (p + 24) = 9) (by decide) (by decide) hp
theorem cap0_26 {p : Nat} (hp : kd p = 0) : cap (p + 26) = 9 := kd_all (c := 0) (Q := fun p => cap (p + 26) = 9) (by decide) (by decide) hp
theorem cap0_28 {p : Nat} (hp : kd p = 0) : cap (p + 28) = 9 := kd_all (c := 0) (Q := fun p => cap (p + 28) = 9) (by decide) (by decide) hp
theorem cap4_1 {p : Nat} (hp : kd p = 4) : cap (p + 1) = 24 := kd_all (c := 4) (Q := fun p => cap (p + 1) = 24) (by decide) (by decide) hp
theorem cap4_3 {p : Nat} (hp : kd p = 4) : cap (p + 3) = 24 := kd_all (c := 4) (Q := fun p => cap (p + 3) = 24) (by decide) (by decide) hp
theorem cap4_5 {p : Nat} (hp : kd p = 4) : cap (p + 5) = 24 := kd_all (c := 4) (Q := fun p => cap (p + 5) = 24) (by decide) (by decide) hp
theorem cap4_7 {p : Nat} (hp : kd p = 4) : cap (p + 7) = 24 := kd_all (c := 4) (Q := fun p => cap (p + 7) = 24) (by decide) (by decide) hp
theorem cap4_9 {p : Nat} (hp : kd p = 4) : cap (p + 9) = 24 := kd_all (c := 4) (Q := fun p => cap (p + 9) = 24) (by decide) (by decide) hp
theorem cap5_1 {p : Nat} (hp : kd p = 5) : cap (p + 1) = 400 := kd_all (c := 5) (Q := fun p => cap (p + 1) = 400) (by decide) (by decide) hp
theorem ini3 {l : Launch} {G : jG} {d : Nat} {h : jH} {r m : Nat} (hr : kd r = 3) (hm : cap r = m) (hd : 1 ≤ d) (hh : h r = (3, [.null, .int 0])) : jJ l G (Yx mX3_init) d 1 m (r + 1) 0 [some (.ref r), some (vi m)] [] h (cK r (r + 2) h) := by
  have hk := kd_row hr
  have ht := T0_row hr
  refine jJ.widen (d' := d) (bc' := 0 + 1) (bs' := 0 + m) (Nat.le_refl _) (by omega) (by omega) ?_
  refine J_aload_n dX3_init_0 rfl ?_
  refine J_objInit dX3_init_1 (List.mem_of_getElem? (i := 93) (by decide +kernel)) (List.mem_of_getElem? (i := 80) (by decide +kernel)) (List.mem_of_getElem? (i := 81) (by decide +kernel)) hd (Nat.le_of_ble_eq_true rfl) ?_
  refine J_aload_n dX3_init_4 rfl ?_
  refine J_iconst dX3_init_5 rfl ?_
  refine J_put dX3_init_6 f_X3_9 hh (by decide) jfit_i ?_
  refine J_aload_n dX3_init_9 rfl ?_
  refine J_iload_n dX3_init_10 rfl ?_
  refine J_iconst dX3_init_11 rfl ?_
  refine J_mmax dX3_init_12 (List.mem_of_getElem? (i := 94) (by decide +kernel)) (List.mem_of_getElem? (i := 95) (by decide +kernel)) (List.mem_of_getElem? (i := 62) (by decide +kernel)) (List.mem_of_getElem? (i := 96) (by decide +kernel)) hd (Nat.le_of_ble_eq_true rfl) ?_
  rw [if_neg (by rw [iz_lt ⟨by omega, by omega⟩ ⟨by decide, by decide⟩]; omega)]
  refine J_newa (ci := 10) (N := m) dX3_init_15 (by decide) rfl (List.mem_of_getElem? (i := 104) (by decide +kernel)) (iz_nn (by omega) (by omega)) (by rw [iz_clamp (by omega) (by omega)]; omega) (by show m * 4 ≤ _; omega) rfl (fun _ => rfl) ?_
  refine J_putF dX3_init_17 rfl (fun q e => by cases e; rfl) f_X3_21 ((jup_ne (by omega)).trans jup_same) (by decide) jfit_a ?_
  refine J_vret dX3_init_20 rfl ⟨rfl, rfl, fun k g1 g2 => ?_, fun k g => ?_⟩
  · rcases Nat.lt_or_ge r k with g | g
    · have e : k = r + 1 := by omega
      subst e
      rw [jup_ne (by omega), jup_same, ht.2, hm]; rfl
    · have e : k = r := by omega
      subst e
      rw [jup_same, ht.1]; rfl
  · rw [jup_ne (by omega), jup_ne (by omega), jup_ne (by omega)]
theorem ini2 {l : Launch} {G : jG} {d : Nat} {h : jH} {p : Nat} (hp : kd p = 2) (hd : 2 ≤ d) (hh : h p = (2, [.null, .null, .null, .null, .null])) : jJ l G (Yx mX2_init) d 10 (733) (p + 1) 0 [some (.ref p)] [] h (cK p (p + 11) h) := by
  refine J_aload_n dX2_init_0 rfl ?_
  refine J_objInit dX2_init_1 (List.mem_of_getElem? (i := 149) (by decide +kernel)) (List.mem_of_getElem? (i := 80) (by decide +kernel)) (List.mem_of_getElem? (i := 81) (by decide +kernel)) (by omega) (Nat.le_of_ble_eq_true rfl) ?_
  suffices key : ∀ z : jH, z p = (2, [.null, .null, .null, .null, .null]) → (∀ k, p < k → k < p + 1 → z k = T0 k) → (∀ k, k < p → z k = h k) → jJ l G (Yx mX2_init) d 10 733 (p + 1) 4 [some (.ref p)] [] z (cK p (p + 11) h) from key _ hh (fun k g1 g2 => by omega) (fun k g => rfl)
  intro h1 b1 a1 f1
  refine J_aload_n dX2_init_4 rfl ?_
  refine J_new (N := 2) (bc := 9) (bs := 731) dX2_init_5 n_X2_9 ?_
  refine J_dup dX2_init_8 rfl ?_
  refine J_bipush (v := Int32.ofInt 40) dX2_init_9 (by decide) ?_
  refine J_callI (As := [vi 40]) (bc := 8) (bs := 691) (bc' := 1) (bs' := 40) (d' := 1) dX2_init_11 i_X2_11 rfl (Nat.le_of_ble_eq_true rfl) (by omega) (Nat.le_of_ble_eq_true rfl) (ini3 (kP1 hp) (cap2_1 hp) (Nat.le_refl _) jup_same) (fun E n' h' q => by cases q.1) (fun v n' h' q => ?_)
  obtain ⟨e1, e2, qa, qb⟩ := q
  cases e1
  have e3 : n' = p + 3 := e2
  subst e3
  simp only [Option.toList, List.nil_append]
  refine J_putF dX2_init_14 rfl (fun q e => by cases e; rfl) f_X2_14 ((qb p (by omega)).trans ((jup_ne (by omega)).trans b1)) (Nat.le_of_ble_eq_true rfl) jfit_r ?_
  suffices key : ∀ z : jH, z p = (2, [.ref (p + 1), .null, .null, .null, .null]) → (∀ k, p < k → k < p + 3 → z k = T0 k) → (∀ k, k < p → z k = h k) → jJ l G (Yx mX2_init) d 8 691 (p + 3) 17 [some (.ref p)] [] z (cK p (p + 11) h) from key _ jup_same (fun k g1 g2 => (jup_ne (by omega)).trans (rg_step a1 qa qb k g1 g2)) (fun k g => (jup_ne (by omega)).trans ((qb k (by omega)).trans ((jup_ne (by omega)).trans (f1 k g))))
  intro h2 b2 a2 f2
  refine J_aload_n dX2_init_17 rfl ?_
  refine J_new (N := 2) (bc := 7) (bs := 689) dX2_init_18 n_X2_9 ?_
  refine J_dup dX2_init_21 rfl ?_
  refine J_bipush (v := Int32.ofInt 41) dX2_init_22 (by decide) ?_
  refine J_callI (As := [vi 41]) (bc := 6) (bs := 648) (bc' := 1) (bs' := 41) (d' := 1) dX2_init_24 i_X2_11 rfl (Nat.le_of_ble_eq_true rfl) (by omega) (Nat.le_of_ble_eq_true rfl) (ini3 (kP3 hp) (cap2_3 hp) (Nat.le_refl _) jup_same) (fun E n' h' q => by cases q.1) (fun v n' h' q => ?_)
  obtain ⟨e1, e2, qa, qb⟩ := q
  cases e1
  have e3 : n' = p + 5 := e2
  subst e3
  simp only [Option.toList, List.nil_append]
  refine J_putF dX2_init_27 rfl (fun q e => by cases e; rfl) f_X2_20 ((qb p (by omega)).trans ((jup_ne (by omega)).trans b2)) (Nat.le_of_ble_eq_true rfl) jfit_r ?_
  suffices key : ∀ z : jH, z p = (2, [.ref (p + 1), .ref (p + 3), .null, .null, .null]) → (∀ k, p < k → k < p + 5 → z k = T0 k) → (∀ k, k < p → z k = h k) → jJ l G (Yx mX2_init) d 6 648 (p + 5) 30 [some (.ref p)] [] z (cK p (p + 11) h) from key _ jup_same (fun k g1 g2 => (jup_ne (by omega)).trans (rg_step a2 qa qb k g1 g2)) (fun k g => (jup_ne (by omega)).trans ((qb k (by omega)).trans ((jup_ne (by omega)).trans (f2 k g))))
  intro h3 b3 a3 f3
  refine J_aload_n dX2_init_30 rfl ?_
  refine J_new (N := 2) (bc := 5) (bs := 646) dX2_init_31 n_X2_9 ?_
  refine J_dup dX2_init_34 rfl ?_
  refine J_bipush (v := Int32.ofInt 121) dX2_init_35 (by decide) ?_
  refine J_callI (As := [vi 121]) (bc := 4) (bs := 525) (bc' := 1) (bs' := 121) (d' := 1) dX2_init_37 i_X2_11 rfl (Nat.le_of_ble_eq_true rfl) (by omega) (Nat.le_of_ble_eq_true rfl) (ini3 (kP5 hp) (cap2_5 hp) (Nat.le_refl _) jup_same) (fun E n' h' q => by cases q.1) (fun v n' h' q => ?_)
  obtain ⟨e1, e2, qa, qb⟩ := q
  cases e1
  have e3 : n' = p + 7 := e2
  subst e3
  simp only [Option.toList, List.nil_append]
  refine J_putF dX2_init_40 rfl (fun q e => by cases e; rfl) f_X2_23 ((qb p (by omega)).trans ((jup_ne (by omega)).trans b3)) (Nat.le_of_ble_eq_true rfl) jfit_r ?_
  suffices key : ∀ z : jH, z p = (2, [.ref (p + 1), .ref (p + 3), .ref (p + 5), .null, .null]) → (∀ k, p < k → k < p + 7 → z k = T0 k) → (∀ k, k < p → z k = h k) → jJ l G (Yx mX2_init) d 4 525 (p + 7) 43 [some (.ref p)] [] z (cK p (p + 11) h) from key _ jup_same (fun k g1 g2 => (jup_ne (by omega)).trans (rg_step a3 qa qb k g1 g2)) (fun k g => (jup_ne (by omega)).trans ((qb k (by omega)).trans ((jup_ne (by omega)).trans (f3 k g))))
  intro h4 b4 a4 f4
  refine J_aload_n dX2_init_43 rfl ?_
  refine J_new (N := 2) (bc := 3) (bs := 523) dX2_init_44 n_X2_9 ?_
  refine J_dup dX2_init_47 rfl ?_
  refine J_bipush (v := Int32.ofInt 121) dX2_init_48 (by decide) ?_
  refine J_callI (As := [vi 121]) (bc := 2) (bs := 402) (bc' := 1) (bs' := 121) (d' := 1) dX2_init_50 i_X2_11 rfl (Nat.le_of_ble_eq_true rfl) (by omega) (Nat.le_of_ble_eq_true rfl) (ini3 (kP7 hp) (cap2_7 hp) (Nat.le_refl _) jup_same) (fun E n' h' q => by cases q.1) (fun v n' h' q => ?_)
  obtain ⟨e1, e2, qa, qb⟩ := q
  cases e1
  have e3 : n' = p + 9 := e2
  subst e3
  simp only [Option.toList, List.nil_append]
  refine J_putF dX2_init_53 rfl (fun q e => by cases e; rfl) f_X2_26 ((qb p (by omega)).trans ((jup_ne (by omega)).trans b4)) (Nat.le_of_ble_eq_true rfl) jfit_r ?_
  suffices key : ∀ z : jH, z p = (2, [.ref (p + 1), .ref (p + 3), .ref (p + 5), .ref (p + 7), .null]) → (∀ k, p < k → k < p + 9 → z k = T0 k) → (∀ k, k < p → z k = h k) → jJ l G (Yx mX2_init) d 2 402 (p + 9) 56 [some (.ref p)] [] z (cK p (p + 11) h) from key _ jup_same (fun k g1 g2 => (jup_ne (by omega)).trans (rg_step a4 qa qb k g1 g2)) (fun k g => (jup_ne (by omega)).trans ((qb k (by omega)).trans ((jup_ne (by omega)).trans (f4 k g))))
  intro h5 b5 a5 f5
  refine J_aload_n dX2_init_56 rfl ?_
  refine J_new (N := 2) (bc := 1) (bs := 400) dX2_init_57 n_X2_9 ?_
  refine J_dup dX2_init_60 rfl ?_
  refine J_sipush (v := Int32.ofInt 400) dX2_init_61 (by decide) ?_
  refine J_callI (As := [vi 400]) (bc := 0) (bs := 0) (bc' := 1) (bs' := 400) (d' := 1) dX2_init_64 i_X2_11 rfl (Nat.le_of_ble_eq_true rfl) (by omega) (Nat.le_of_ble_eq_true rfl) (ini3 (kP9 hp) (cap2_9 hp) (Nat.le_refl _) jup_same) (fun E n' h' q => by cases q.1) (fun v n' h' q => ?_)
  obtain ⟨e1, e2, qa, qb⟩ := q
  cases e1
  have e3 : n' = p + 11 := e2
  subst e3
  simp only [Option.toList, List.nil_append]
  refine J_putF dX2_init_67 rfl (fun q e => by cases e; rfl) f_X2_29 ((qb p (by omega)).trans ((jup_ne (by omega)).trans b5)) (Nat.le_of_ble_eq_true rfl) jfit_r ?_
  suffices key : ∀ z : jH, z p = (2, [.ref (p + 1), .ref (p + 3), .ref (p + 5), .ref (p + 7), .ref (p + 9)]) → (∀ k, p < k → k < p + 11 → z k = T0 k) → (∀ k, k < p → z k = h k) → jJ l G (Yx mX2_init) d 0 0 (p + 11) 70 [some (.ref p)] [] z (cK p (p + 11) h) from key _ jup_same (fun k g1 g2 => (jup_ne (by omega)).trans (rg_step a5 qa qb k g1 g2)) (fun k g => (jup_ne (by omega)).trans ((qb k (by omega)).trans ((jup_ne (by omega)).trans (f5 k g))))
  intro h6 b6 a6 f6
  refine J_vret dX2_init_70 rfl ⟨rfl, rfl, fun k g1 g2 => ?_, f6⟩
  rcases Nat.lt_or_ge p k with g | g
  · exact a6 k g g2
  · have e : k = p := by omega
    subst e; rw [b6, T0_2 hp]
theorem ini4 {l : Launch} {G : jG} {d : Nat} {h : jH} {p : Nat} (hp : kd p = 4) (hd : 2 ≤ d) (hh : h p = (4, [.null, .null, .null, .null, .int 0, .int 0, .null, .int 0, .int 0])) : jJ l G (Yx mX4_init) d 10 (130) (p + 1) 0 [some (.ref p)] [] h (cK p (p + 11) h) := by
  refine J_aload_n dX4_init_0 rfl ?_
  refine J_objInit dX4_init_1 (List.mem_of_getElem? (i := 213) (by decide +kernel)) (List.mem_of_getElem? (i := 80) (by decide +kernel)) (List.mem_of_getElem? (i := 81) (by decide +kernel)) (by omega) (Nat.le_of_ble_eq_true rfl) ?_
  suffices key : ∀ z : jH, z p = (4, [.null, .null, .null, .null, .int 0, .int 0, .null, .int 0, .int 0]) → (∀ k, p < k → k < p + 1 → z k = T0 k) → (∀ k, k < p → z k = h k) → jJ l G (Yx mX4_init) d 10 130 (p + 1) 4 [some (.ref p)] [] z (cK p (p + 11) h) from key _ hh (fun k g1 g2 => by omega) (fun k g => rfl)
  intro h1 b1 a1 f1
  refine J_aload_n dX4_init_4 rfl ?_
  refine J_new (N := 2) (bc := 9) (bs := 128) dX4_init_5 n_X4_9 ?_
  refine J_dup dX4_init_8 rfl ?_
  refine J_bipush (v := Int32.ofInt 24) dX4_init_9 (by decide) ?_
  refine J_callI (As := [vi 24]) (bc := 8) (bs := 104) (bc' := 1) (bs' := 24) (d' := 1) dX4_init_11 i_X4_11 rfl (Nat.le_of_ble_eq_true rfl) (by omega) (Nat.le_of_ble_eq_true rfl) (ini3 (kT1 hp) (cap4_1 hp) (Nat.le_refl _) jup_same) (fun E n' h' q => by cases q.1) (fun v n' h' q => ?_)
  obtain ⟨e1, e2, qa, qb⟩ := q
  cases e1
  have e3 : n' = p + 3 := e2
  subst e3
  simp only [Option.toList, List.nil_append]
  refine J_putF dX4_init_14 rfl (fun q e => by cases e; rfl) f_X4_14 ((qb p (by omega)).trans ((jup_ne (by omega)).trans b1)) (Nat.le_of_ble_eq_true rfl) jfit_r ?_
  suffices key : ∀ z : jH, z p = (4, [.ref (p + 1), .null, .null, .null, .int 0, .int 0, .null, .int 0, .int 0]) → (∀ k, p < k → k < p + 3 → z k = T0 k) → (∀ k, k < p → z k = h k) → jJ l G (Yx mX4_init) d 8 104 (p + 3) 17 [some (.ref p)] [] z (cK p (p + 11) h) from key _ jup_same (fun k g1 g2 => (jup_ne (by omega)).trans (rg_step a1 qa qb k g1 g2)) (fun k g => (jup_ne (by omega)).trans ((qb k (by omega)).trans ((jup_ne (by omega)).trans (f1 k g))))
  intro h2 b2 a2 f2
  refine J_aload_n dX4_init_17 rfl ?_
  refine J_new (N := 2) (bc := 7) (bs := 102) dX4_init_18 n_X4_9 ?_
  refine J_dup dX4_init_21 rfl ?_
  refine J_bipush (v := Int32.ofInt 24) dX4_init_22 (by decide) ?_
  refine J_callI (As := [vi 24]) (bc := 6) (bs := 78) (bc' := 1) (bs' := 24) (d' := 1) dX4_init_24 i_X4_11 rfl (Nat.le_of_ble_eq_true rfl) (by omega) (Nat.le_of_ble_eq_true rfl) (ini3 (kT3 hp) (cap4_3 hp) (Nat.le_refl _) jup_same) (fun E n' h' q => by cases q.1) (fun v n' h' q => ?_)
  obtain ⟨e1, e2, qa, qb⟩ := q
  cases e1
  have e3 : n' = p + 5 := e2
  subst e3
  simp only [Option.toList, List.nil_append]
  refine J_putF dX4_init_27 rfl (fun q e => by cases e; rfl) f_X4_20 ((qb p (by omega)).trans ((jup_ne (by omega)).trans b2)) (Nat.le_of_ble_eq_true rfl) jfit_r ?_
  suffices key : ∀ z : jH, z p = (4, [.ref (p + 1), .ref (p + 3), .null, .null, .int 0, .int 0, .null, .int 0, .int 0]) → (∀ k, p < k → k < p + 5 → z k = T0 k) → (∀ k, k < p → z k = h k) → jJ l G (Yx mX4_init) d 6 78 (p + 5) 30 [some (.ref p)] [] z (cK p (p + 11) h) from key _ jup_same (fun k g1 g2 => (jup_ne (by omega)).trans (rg_step a2 qa qb k g1 g2)) (fun k g => (jup_ne (by omega)).trans ((qb k (by omega)).trans ((jup_ne (by omega)).trans (f2 k g))))
  intro h3 b3 a3 f3
  refine J_aload_n dX4_init_30 rfl ?_
  refine J_new (N := 2) (bc := 5) (bs := 76) dX4_init_31 n_X4_9 ?_
  refine J_dup dX4_init_34 rfl ?_
  refine J_bipush (v := Int32.ofInt 24) dX4_init_35 (by decide) ?_
  refine J_callI (As := [vi 24]) (bc := 4) (bs := 52) (bc' := 1) (bs' := 24) (d' := 1) dX4_init_37 i_X4_11 rfl (Nat.le_of_ble_eq_true rfl) (by omega) (Nat.le_of_ble_eq_true rfl) (ini3 (kT5 hp) (cap4_5 hp) (Nat.le_refl _) jup_same) (fun E n' h' q => by cases q.1) (fun v n' h' q => ?_)
  obtain ⟨e1, e2, qa, qb⟩ := q
  cases e1
  have e3 : n' = p + 7 := e2
  subst e3
  simp only [Option.toList, List.nil_append]
  refine J_putF dX4_init_40 rfl (fun q e => by cases e; rfl) f_X4_23 ((qb p (by omega)).trans ((jup_ne (by omega)).trans b3)) (Nat.le_of_ble_eq_true rfl) jfit_r ?_
  suffices key : ∀ z : jH, z p = (4, [.ref (p + 1), .ref (p + 3), .ref (p + 5), .null, .int 0, .int 0, .null, .int 0, .int 0]) → (∀ k, p < k → k < p + 7 → z k = T0 k) → (∀ k, k < p → z k = h k) → jJ l G (Yx mX4_init) d 4 52 (p + 7) 43 [some (.ref p)] [] z (cK p (p + 11) h) from key _ jup_same (fun k g1 g2 => (jup_ne (by omega)).trans (rg_step a3 qa qb k g1 g2)) (fun k g => (jup_ne (by omega)).trans ((qb k (by omega)).trans ((jup_ne (by omega)).trans (f3 k g))))
  intro h4 b4 a4 f4
  refine J_aload_n dX4_init_43 rfl ?_
  refine J_new (N := 2) (bc := 3) (bs := 50) dX4_init_44 n_X4_9 ?_
  refine J_dup dX4_init_47 rfl ?_
  refine J_bipush (v := Int32.ofInt 24) dX4_init_48 (by decide) ?_
  refine J_callI (As := [vi 24]) (bc := 2) (bs := 26) (bc' := 1) (bs' := 24) (d' := 1) dX4_init_50 i_X4_11 rfl (Nat.le_of_ble_eq_true rfl) (by omega) (Nat.le_of_ble_eq_true rfl) (ini3 (kT7 hp) (cap4_7 hp) (Nat.le_refl _) jup_same) (fun E n' h' q => by cases q.1) (fun v n' h' q => ?_)
  obtain ⟨e1, e2, qa, qb⟩ := q
  cases e1
  have e3 : n' = p + 9 := e2
  subst e3
  simp only [Option.toList, List.nil_append]
  refine J_putF dX4_init_53 rfl (fun q e => by cases e; rfl) f_X4_26 ((qb p (by omega)).trans ((jup_ne (by omega)).trans b4)) (Nat.le_of_ble_eq_true rfl) jfit_r ?_
  suffices key : ∀ z : jH, z p = (4, [.ref (p + 1), .ref (p + 3), .ref (p + 5), .ref (p + 7), .int 0, .int 0, .null, .int 0, .int 0]) → (∀ k, p < k → k < p + 9 → z k = T0 k) → (∀ k, k < p → z k = h k) → jJ l G (Yx mX4_init) d 2 26 (p + 9) 56 [some (.ref p)] [] z (cK p (p + 11) h) from key _ jup_same (fun k g1 g2 => (jup_ne (by omega)).trans (rg_step a4 qa qb k g1 g2)) (fun k g => (jup_ne (by omega)).trans ((qb k (by omega)).trans ((jup_ne (by omega)).trans (f4 k g))))
  intro h5 b5 a5 f5
  refine J_aload_n dX4_init_56 rfl ?_
  refine J_iconst (v := Int32.ofInt (-1)) dX4_init_57 (by decide) ?_
  refine J_put dX4_init_58 f_X4_29 b5 (Nat.le_of_ble_eq_true rfl) jfit_i ?_
  suffices key : ∀ z : jH, z p = (4, [.ref (p + 1), .ref (p + 3), .ref (p + 5), .ref (p + 7), vi (-1), .int 0, .null, .int 0, .int 0]) → (∀ k, p < k → k < p + 9 → z k = T0 k) → (∀ k, k < p → z k = h k) → jJ l G (Yx mX4_init) d 2 26 (p + 9) 61 [some (.ref p)] [] z (cK p (p + 11) h) from key _ jup_same (fun k g1 g2 => (jup_ne (by omega)).trans (a5 k g1 g2)) (fun k g => (jup_ne (by omega)).trans (f5 k g))
  intro h6 b6 a6 f6
  refine J_aload_n dX4_init_61 rfl ?_
  refine J_iconst (v := Int32.ofInt 0) dX4_init_62 (by decide) ?_
  refine J_put dX4_init_63 f_X4_33 b6 (Nat.le_of_ble_eq_true rfl) jfit_i ?_
  suffices key : ∀ z : jH, z p = (4, [.ref (p + 1), .ref (p + 3), .ref (p + 5), .ref (p + 7), vi (-1), vi 0, .null, .int 0, .int 0]) → (∀ k, p < k → k < p + 9 → z k = T0 k) → (∀ k, k < p → z k = h k) → jJ l G (Yx mX4_init) d 2 26 (p + 9) 66 [some (.ref p)] [] z (cK p (p + 11) h) from key _ jup_same (fun k g1 g2 => (jup_ne (by omega)).trans (a6 k g1 g2)) (fun k g => (jup_ne (by omega)).trans (f6 k g))
  intro h7 b7 a7 f7
  refine J_aload_n dX4_init_66 rfl ?_
  refine J_new (N := 2) (bc := 1) (bs := 24) dX4_init_67 n_X4_9 ?_
  refine J_dup dX4_init_70 rfl ?_
  refine J_bipush (v := Int32.ofInt 24) dX4_init_71 (by decide) ?_
  refine J_callI (As := [vi 24]) (bc := 0) (bs := 0) (bc' := 1) (bs' := 24) (d' := 1) dX4_init_73 i_X4_11 rfl (Nat.le_of_ble_eq_true rfl) (by omega) (Nat.le_of_ble_eq_true rfl) (ini3 (kT9 hp) (cap4_9 hp) (Nat.le_refl _) jup_same) (fun E n' h' q => by cases q.1) (fun v n' h' q => ?_)
  obtain ⟨e1, e2, qa, qb⟩ := q
  cases e1
  have e3 : n' = p + 11 := e2
  subst e3
  simp only [Option.toList, List.nil_append]
  refine J_putF dX4_init_76 rfl (fun q e => by cases e; rfl) f_X4_36 ((qb p (by omega)).trans ((jup_ne (by omega)).trans b7)) (Nat.le_of_ble_eq_true rfl) jfit_r ?_
  suffices key : ∀ z : jH, z p = (4, [.ref (p + 1), .ref (p + 3), .ref (p + 5), .ref (p + 7), vi (-1), vi 0, .ref (p + 9), .int 0, .int 0]) → (∀ k, p < k → k < p + 11 → z k = T0 k) → (∀ k, k < p → z k = h k) → jJ l G (Yx mX4_init) d 0 0 (p + 11) 79 [some (.ref p)] [] z (cK p (p + 11) h) from key _ jup_same (fun k g1 g2 => (jup_ne (by omega)).trans (rg_step a7 qa qb k g1 g2)) (fun k g => (jup_ne (by omega)).trans ((qb k (by omega)).trans ((jup_ne (by omega)).trans (f7 k g))))
  intro h8 b8 a8 f8
  refine J_aload_n dX4_init_79 rfl ?_
  refine J_iconst (v := Int32.ofInt (-1)) dX4_init_80 (by decide) ?_
  refine J_put dX4_init_81 f_X4_39 b8 (Nat.le_of_ble_eq_true rfl) jfit_i ?_
  suffices key : ∀ z : jH, z p = (4, [.ref (p + 1), .ref (p + 3), .ref (p + 5), .ref (p + 7), vi (-1), vi 0, .ref (p + 9), vi (-1), .int 0]) → (∀ k, p < k → k < p + 11 → z k = T0 k) → (∀ k, k < p → z k = h k) → jJ l G (Yx mX4_init) d 0 0 (p + 11) 84 [some (.ref p)] [] z (cK p (p + 11) h) from key _ jup_same (fun k g1 g2 => (jup_ne (by omega)).trans (a8 k g1 g2)) (fun k g => (jup_ne (by omega)).trans (f8 k g))
  intro h9 b9 a9 f9
  refine J_aload_n dX4_init_84 rfl ?_
  refine J_iconst (v := Int32.ofInt (-1)) dX4_init_85 (by decide) ?_
  refine J_put dX4_init_86 f_X4_42 b9 (Nat.le_of_ble_eq_true rfl) jfit_i ?_
  suffices key : ∀ z : jH, z p = (4, [.ref (p + 1), .ref (p + 3), .ref (p + 5), .ref (p + 7), vi (-1), vi 0, .ref (p + 9), vi (-1), vi (-1)]) → (∀ k, p < k → k < p + 11 → z k = T0 k) → (∀ k, k < p → z k = h k) → jJ l G (Yx mX4_init) d 0 0 (p + 11) 89 [some (.ref p)] [] z (cK p (p + 11) h) from key _ jup_same (fun k g1 g2 => (jup_ne (by omega)).trans (a9 k g1 g2)) (fun k g => (jup_ne (by omega)).trans (f9 k g))
  intro h10 b10 a10 f10
  refine J_vret dX4_init_89 rfl ⟨rfl, rfl, fun k g1 g2 => ?_, f10⟩
  rcases Nat.lt_or_ge p k with g | g
  · exact a10 k g g2
  · have e : k = p := by omega
    subst e; rw [b10, T0_4 hp]
theorem ini5 {l : Launch} {G : jG} {d : Nat} {h : jH} {p : Nat} (hp : kd p = 5) (hd : 2 ≤ d) (hh : h p = (5, [.null, .int 0, .int 0, .int 0, .int 0, .int 0])) : jJ l G (Yx mX5_init) d 2 (402) (p + 1) 0 [some (.ref p)] [] h (cK p (p + 3) h) := by
  refine J_aload_n dX5_init_0 rfl ?_
  refine J_objInit dX5_init_1 (List.mem_of_getElem? (i := 87) (by decide +kernel)) (List.mem_of_getElem? (i := 80) (by decide +kernel)) (List.mem_of_getElem? (i := 81) (by decide +kernel)) (by omega) (Nat.le_of_ble_eq_true rfl) ?_
  suffices key : ∀ z : jH, z p = (5, [.null, .int 0, .int 0, .int 0, .int 0, .int 0]) → (∀ k, p < k → k < p + 1 → z k = T0 k) → (∀ k, k < p → z k = h k) → jJ l G (Yx mX5_init) d 2 402 (p + 1) 4 [some (.ref p)] [] z (cK p (p + 3) h) from key _ hh (fun k g1 g2 => by omega) (fun k g => rfl)
  intro h1 b1 a1 f1
  refine J_aload_n dX5_init_4 rfl ?_
  refine J_new (N := 2) (bc := 1) (bs := 400) dX5_init_5 n_X5_9 ?_
  refine J_dup dX5_init_8 rfl ?_
  refine J_sipush (v := Int32.ofInt 400) dX5_init_9 (by decide) ?_
  refine J_callI (As := [vi 400]) (bc := 0) (bs := 0) (bc' := 1) (bs' := 400) (d' := 1) dX5_init_12 i_X5_11 rfl (Nat.le_of_ble_eq_true rfl) (by omega) (Nat.le_of_ble_eq_true rfl) (ini3 (kX1 hp) (cap5_1 hp) (Nat.le_refl _) jup_same) (fun E n' h' q => by cases q.1) (fun v n' h' q => ?_)
  obtain ⟨e1, e2, qa, qb⟩ := q
  cases e1
  have e3 : n' = p + 3 := e2
  subst e3
  simp only [Option.toList, List.nil_append]
  refine J_putF dX5_init_15 rfl (fun q e => by cases e; rfl) f_X5_14 ((qb p (by omega)).trans ((jup_ne (by omega)).trans b1)) (Nat.le_of_ble_eq_true rfl) jfit_r ?_
  suffices key : ∀ z : jH, z p = (5, [.ref (p + 1), .int 0, .int 0, .int 0, .int 0, .int 0]) → (∀ k, p < k → k < p + 3 → z k = T0 k) → (∀ k, k < p → z k = h k) → jJ l G (Yx mX5_init) d 0 0 (p + 3) 18 [some (.ref p)] [] z (cK p (p + 3) h) from key _ jup_same (fun k g1 g2 => (jup_ne (by omega)).trans (rg_step a1 qa qb k g1 g2)) (fun k g => (jup_ne (by omega)).trans ((qb k (by omega)).trans ((jup_ne (by omega)).trans (f1 k g))))
  intro h2 b2 a2 f2
  refine J_aload_n dX5_init_18 rfl ?_
  refine J_iconst (v := Int32.ofInt 0) dX5_init_19 (by decide) ?_
  refine J_put dX5_init_20 f_X5_20 b2 (Nat.le_of_ble_eq_true rfl) jfit_i ?_
  suffices key : ∀ z : jH, z p = (5, [.ref (p + 1), vi 0, .int 0, .int 0, .int 0, .int 0]) → (∀ k, p < k → k < p + 3 → z k = T0 k) → (∀ k, k < p → z k = h k) → jJ l G (Yx mX5_init) d 0 0 (p + 3) 23 [some (.ref p)] [] z (cK p (p + 3) h) from key _ jup_same (fun k g1 g2 => (jup_ne (by omega)).trans (a2 k g1 g2)) (fun k g => (jup_ne (by omega)).trans (f2 k g))
  intro h3 b3 a3 f3
  refine J_aload_n dX5_init_23 rfl ?_
  refine J_iconst (v := Int32.ofInt 0) dX5_init_24 (by decide) ?_
  refine J_put dX5_init_25 f_X5_24 b3 (Nat.le_of_ble_eq_true rfl) jfit_i ?_
  suffices key : ∀ z : jH, z p = (5, [.ref (p + 1), vi 0, vi 0, .int 0, .int 0, .int 0]) → (∀ k, p < k → k < p + 3 → z k = T0 k) → (∀ k, k < p → z k = h k) → jJ l G (Yx mX5_init) d 0 0 (p + 3) 28 [some (.ref p)] [] z (cK p (p + 3) h) from key _ jup_same (fun k g1 g2 => (jup_ne (by omega)).trans (a3 k g1 g2)) (fun k g => (jup_ne (by omega)).trans (f3 k g))
  intro h4 b4 a4 f4
  refine J_aload_n dX5_init_28 rfl ?_
  refine J_iconst (v := Int32.ofInt 0) dX5_init_29 (by decide) ?_
  refine J_put dX5_init_30 f_X5_27 b4 (Nat.le_of_ble_eq_true rfl) jfit_i ?_
  suffices key : ∀ z : jH, z p = (5, [.ref (p + 1), vi 0, vi 0, vi 0, .int 0, .int 0]) → (∀ k, p < k → k < p + 3 → z k = T0 k) → (∀ k, k < p → z k = h k) → jJ l G (Yx mX5_init) d 0 0 (p + 3) 33 [some (.ref p)] [] z (cK p (p + 3) h) from key _ jup_same (fun k g1 g2 => (jup_ne (by omega)).trans (a4 k g1 g2)) (fun k g => (jup_ne (by omega)).trans (f4 k g))
  intro h5 b5 a5 f5
  refine J_aload_n dX5_init_33 rfl ?_
  refine J_iconst (v := Int32.ofInt 0) dX5_init_34 (by decide) ?_
  refine J_put dX5_init_35 f_X5_30 b5 (Nat.le_of_ble_eq_true rfl) jfit_i ?_
  suffices key : ∀ z : jH, z p = (5, [.ref (p + 1), vi 0, vi 0, vi 0, vi 0, .int 0]) → (∀ k, p < k → k < p + 3 → z k = T0 k) → (∀ k, k < p → z k = h k) → jJ l G (Yx mX5_init) d 0 0 (p + 3) 38 [some (.ref p)] [] z (cK p (p + 3) h) from key _ jup_same (fun k g1 g2 => (jup_ne (by omega)).trans (a5 k g1 g2)) (fun k g => (jup_ne (by omega)).trans (f5 k g))
  intro h6 b6 a6 f6
  refine J_aload_n dX5_init_38 rfl ?_
  refine J_iconst (v := Int32.ofInt 0) dX5_init_39 (by decide) ?_
  refine J_put dX5_init_40 f_X5_33 b6 (Nat.le_of_ble_eq_true rfl) jfit_i ?_
  suffices key : ∀ z : jH, z p = (5, [.ref (p + 1), vi 0, vi 0, vi 0, vi 0, vi 0]) → (∀ k, p < k → k < p + 3 → z k = T0 k) → (∀ k, k < p → z k = h k) → jJ l G (Yx mX5_init) d 0 0 (p + 3) 43 [some (.ref p)] [] z (cK p (p + 3) h) from key _ jup_same (fun k g1 g2 => (jup_ne (by omega)).trans (a6 k g1 g2)) (fun k g => (jup_ne (by omega)).trans (f6 k g))
  intro h7 b7 a7 f7
  refine J_vret dX5_init_43 rfl ⟨rfl, rfl, fun k g1 g2 => ?_, f7⟩
  rcases Nat.lt_or_ge p k with g | g
  · exact a7 k g g2
  · have e : k = p := by omega
    subst e; rw [b7, T0_5 hp]
theorem ini1 {l : Launch} {G : jG} {d : Nat} {h : jH} {p : Nat} {m : Nat} (hp : kd p = 1) (hm : cap (p + 1) = m) (hd : 2 ≤ d) (hh : h p = (1, [.null])) : jJ l G (Yx mX1_init) d 2 (2 + m) (p + 1) 0 [some (.ref p), some (vi m)] [] h (cK p (p + 3) h) := by
  refine jJ.widen (d' := d) (bc' := 0 + 1 + 1) (bs' := 0 + m + 2) (Nat.le_refl _) (by omega) (by omega) ?_
  refine J_aload_n dX1_init_0 rfl ?_
  refine J_objInit dX1_init_1 (List.mem_of_getElem? (i := 131) (by decide +kernel)) (List.mem_of_getElem? (i := 80) (by decide +kernel)) (List.mem_of_getElem? (i := 81) (by decide +kernel)) (by omega) (Nat.le_of_ble_eq_true rfl) ?_
  suffices key : ∀ z : jH, z p = (1, [.null]) → (∀ k, p < k → k < p + 1 → z k = T0 k) → (∀ k, k < p → z k = h k) → jJ l G (Yx mX1_init) d (0 + 1 + 1) (0 + m + 2) (p + 1) 4 [some (.ref p), some (vi m)] [] z (cK p (p + 3) h) from key _ hh (fun k g1 g2 => by omega) (fun k g => rfl)
  intro h1 b1 a1 f1
  refine J_aload_n dX1_init_4 rfl ?_
  refine J_new dX1_init_5 n_X1_9 ?_
  refine J_dup dX1_init_8 rfl ?_
  refine J_iload_n dX1_init_9 rfl ?_
  refine J_callI (As := [vi m]) (bc := 0) (bs := 0) (bc' := 1) (bs' := m) (d' := 1) dX1_init_10 i_X1_11 rfl (Nat.le_of_ble_eq_true rfl) (by omega) (Nat.le_of_ble_eq_true rfl) (ini3 (kQ1 hp) hm (Nat.le_refl _) jup_same) (fun E n' h' q => by cases q.1) (fun v n' h' q => ?_)
  obtain ⟨e1, e2, qa, qb⟩ := q
  cases e1
  have e3 : n' = p + 3 := e2
  subst e3
  simp only [Option.toList, List.nil_append]
  refine J_putF dX1_init_13 rfl (fun q e => by cases e; rfl) f_X1_14 ((qb p (by omega)).trans ((jup_ne (by omega)).trans b1)) (Nat.le_of_ble_eq_true rfl) jfit_r ?_
  suffices key : ∀ z : jH, z p = (1, [.ref (p + 1)]) → (∀ k, p < k → k < p + 3 → z k = T0 k) → (∀ k, k < p → z k = h k) → jJ l G (Yx mX1_init) d 0 0 (p + 3) 16 [some (.ref p), some (vi m)] [] z (cK p (p + 3) h) from key _ jup_same (fun k g1 g2 => (jup_ne (by omega)).trans (rg_step a1 qa qb k g1 g2)) (fun k g => (jup_ne (by omega)).trans ((qb k (by omega)).trans ((jup_ne (by omega)).trans (f1 k g))))
  intro h2 b2 a2 f2
  refine J_vret dX1_init_16 rfl ⟨rfl, rfl, fun k g1 g2 => ?_, f2⟩
  rcases Nat.lt_or_ge p k with g | g
  · exact a2 k g g2
  · have e : k = p := by omega
    subst e; rw [b2, T0_1 hp]
theorem ini0 {l : Launch} {G : jG} {d : Nat} {h : jH} {p : Nat} (hp : kd p = 0) (hd : 3 ≤ d) (hh : h p = (0, [.null, .null, .null, .null, .null, .null, .null, .null, .null, .null, .int 0, .int 0])) : jJ l G (Yx mX0_init) d 29 (887) (p + 1) 0 [some (.ref p)] [] h (cK p (p + 30) h) := by
  refine J_aload_n dX0_init_0 rfl ?_
  refine J_objInit dX0_init_1 (List.mem_of_getElem? (i := 143) (by decide +kernel)) (List.mem_of_getElem? (i := 80) (by decide +kernel)) (List.mem_of_getElem? (i := 81) (by decide +kernel)) (by omega) (Nat.le_of_ble_eq_true rfl) ?_
  suffices key : ∀ z : jH, z p = (0, [.null, .null, .null, .null, .null, .null, .null, .null, .null, .null, .int 0, .int 0]) → (∀ k, p < k → k < p + 1 → z k = T0 k) → (∀ k, k < p → z k = h k) → jJ l G (Yx mX0_init) d 29 887 (p + 1) 4 [some (.ref p)] [] z (cK p (p + 30) h) from key _ hh (fun k g1 g2 => by omega) (fun k g => rfl)
  intro h1 b1 a1 f1
  refine J_aload_n dX0_init_4 rfl ?_
  refine J_new (N := 5) (bc := 28) (bs := 882) dX0_init_5 n_X0_9 ?_
  refine J_dup dX0_init_8 rfl ?_
  refine J_callIN (As := []) (bc := 18) (bs := 149) (bc' := 10) (bs' := 733) (d' := 2) dX0_init_9 i_X0_11 rfl (Nat.le_of_ble_eq_true rfl) (by omega) (Nat.le_of_ble_eq_true rfl) (ini2 (kE1 hp) (Nat.le_refl _) jup_same) (fun E n' h' q => by cases q.1) (fun v n' h' q => ?_)
  obtain ⟨e1, e2, qa, qb⟩ := q
  cases e1
  have e3 : n' = p + 12 := e2
  subst e3
  simp only [Option.toList, List.nil_append]
  refine J_putF dX0_init_12 rfl (fun q e => by cases e; rfl) f_X0_12 ((qb p (by omega)).trans ((jup_ne (by omega)).trans b1)) (Nat.le_of_ble_eq_true rfl) jfit_r ?_
  suffices key : ∀ z : jH, z p = (0, [.ref (p + 1), .null, .null, .null, .null, .null, .null, .null, .null, .null, .int 0, .int 0]) → (∀ k, p < k → k < p + 12 → z k = T0 k) → (∀ k, k < p → z k = h k) → jJ l G (Yx mX0_init) d 18 149 (p + 12) 15 [some (.ref p)] [] z (cK p (p + 30) h) from key _ jup_same (fun k g1 g2 => (jup_ne (by omega)).trans (rg_step a1 qa qb k g1 g2)) (fun k g => (jup_ne (by omega)).trans ((qb k (by omega)).trans ((jup_ne (by omega)).trans (f1 k g))))
  intro h2 b2 a2 f2
  refine J_aload_n dX0_init_15 rfl ?_
  refine J_new (N := 2) (bc := 17) (bs := 147) dX0_init_16 n_X0_18 ?_
  refine J_dup dX0_init_19 rfl ?_
  refine J_bipush (v := Int32.ofInt 19) dX0_init_20 (by decide) ?_
  refine J_callI (As := [vi 19]) (bc := 16) (bs := 128) (bc' := 1) (bs' := 19) (d' := 1) dX0_init_22 i_X0_20 rfl (Nat.le_of_ble_eq_true rfl) (by omega) (Nat.le_of_ble_eq_true rfl) (ini3 (kE12 hp) (cap0_12 hp) (Nat.le_refl _) jup_same) (fun E n' h' q => by cases q.1) (fun v n' h' q => ?_)
  obtain ⟨e1, e2, qa, qb⟩ := q
  cases e1
  have e3 : n' = p + 14 := e2
  subst e3
  simp only [Option.toList, List.nil_append]
  refine J_putF dX0_init_25 rfl (fun q e => by cases e; rfl) f_X0_23 ((qb p (by omega)).trans ((jup_ne (by omega)).trans b2)) (Nat.le_of_ble_eq_true rfl) jfit_r ?_
  suffices key : ∀ z : jH, z p = (0, [.ref (p + 1), .ref (p + 12), .null, .null, .null, .null, .null, .null, .null, .null, .int 0, .int 0]) → (∀ k, p < k → k < p + 14 → z k = T0 k) → (∀ k, k < p → z k = h k) → jJ l G (Yx mX0_init) d 16 128 (p + 14) 28 [some (.ref p)] [] z (cK p (p + 30) h) from key _ jup_same (fun k g1 g2 => (jup_ne (by omega)).trans (rg_step a2 qa qb k g1 g2)) (fun k g => (jup_ne (by omega)).trans ((qb k (by omega)).trans ((jup_ne (by omega)).trans (f2 k g))))
  intro h3 b3 a3 f3
  refine J_aload_n dX0_init_28 rfl ?_
  refine J_new (N := 2) (bc := 15) (bs := 126) dX0_init_29 n_X0_18 ?_
  refine J_dup dX0_init_32 rfl ?_
  refine J_bipush (v := Int32.ofInt 19) dX0_init_33 (by decide) ?_
  refine J_callI (As := [vi 19]) (bc := 14) (bs := 107) (bc' := 1) (bs' := 19) (d' := 1) dX0_init_35 i_X0_20 rfl (Nat.le_of_ble_eq_true rfl) (by omega) (Nat.le_of_ble_eq_true rfl) (ini3 (kE14 hp) (cap0_14 hp) (Nat.le_refl _) jup_same) (fun E n' h' q => by cases q.1) (fun v n' h' q => ?_)
  obtain ⟨e1, e2, qa, qb⟩ := q
  cases e1
  have e3 : n' = p + 16 := e2
  subst e3
  simp only [Option.toList, List.nil_append]
  refine J_putF dX0_init_38 rfl (fun q e => by cases e; rfl) f_X0_27 ((qb p (by omega)).trans ((jup_ne (by omega)).trans b3)) (Nat.le_of_ble_eq_true rfl) jfit_r ?_
  suffices key : ∀ z : jH, z p = (0, [.ref (p + 1), .ref (p + 12), .ref (p + 14), .null, .null, .null, .null, .null, .null, .null, .int 0, .int 0]) → (∀ k, p < k → k < p + 16 → z k = T0 k) → (∀ k, k < p → z k = h k) → jJ l G (Yx mX0_init) d 14 107 (p + 16) 41 [some (.ref p)] [] z (cK p (p + 30) h) from key _ jup_same (fun k g1 g2 => (jup_ne (by omega)).trans (rg_step a3 qa qb k g1 g2)) (fun k g => (jup_ne (by omega)).trans ((qb k (by omega)).trans ((jup_ne (by omega)).trans (f3 k g))))
  intro h4 b4 a4 f4
  refine J_aload_n dX0_init_41 rfl ?_
  refine J_new (N := 2) (bc := 13) (bs := 105) dX0_init_42 n_X0_18 ?_
  refine J_dup dX0_init_45 rfl ?_
  refine J_bipush (v := Int32.ofInt 19) dX0_init_46 (by decide) ?_
  refine J_callI (As := [vi 19]) (bc := 12) (bs := 86) (bc' := 1) (bs' := 19) (d' := 1) dX0_init_48 i_X0_20 rfl (Nat.le_of_ble_eq_true rfl) (by omega) (Nat.le_of_ble_eq_true rfl) (ini3 (kE16 hp) (cap0_16 hp) (Nat.le_refl _) jup_same) (fun E n' h' q => by cases q.1) (fun v n' h' q => ?_)
  obtain ⟨e1, e2, qa, qb⟩ := q
  cases e1
  have e3 : n' = p + 18 := e2
  subst e3
  simp only [Option.toList, List.nil_append]
  refine J_putF dX0_init_51 rfl (fun q e => by cases e; rfl) f_X0_30 ((qb p (by omega)).trans ((jup_ne (by omega)).trans b4)) (Nat.le_of_ble_eq_true rfl) jfit_r ?_
  suffices key : ∀ z : jH, z p = (0, [.ref (p + 1), .ref (p + 12), .ref (p + 14), .ref (p + 16), .null, .null, .null, .null, .null, .null, .int 0, .int 0]) → (∀ k, p < k → k < p + 18 → z k = T0 k) → (∀ k, k < p → z k = h k) → jJ l G (Yx mX0_init) d 12 86 (p + 18) 54 [some (.ref p)] [] z (cK p (p + 30) h) from key _ jup_same (fun k g1 g2 => (jup_ne (by omega)).trans (rg_step a4 qa qb k g1 g2)) (fun k g => (jup_ne (by omega)).trans ((qb k (by omega)).trans ((jup_ne (by omega)).trans (f4 k g))))
  intro h5 b5 a5 f5
  refine J_aload_n dX0_init_54 rfl ?_
  refine J_new (N := 2) (bc := 11) (bs := 84) dX0_init_55 n_X0_18 ?_
  refine J_dup dX0_init_58 rfl ?_
  refine J_bipush (v := Int32.ofInt 19) dX0_init_59 (by decide) ?_
  refine J_callI (As := [vi 19]) (bc := 10) (bs := 65) (bc' := 1) (bs' := 19) (d' := 1) dX0_init_61 i_X0_20 rfl (Nat.le_of_ble_eq_true rfl) (by omega) (Nat.le_of_ble_eq_true rfl) (ini3 (kE18 hp) (cap0_18 hp) (Nat.le_refl _) jup_same) (fun E n' h' q => by cases q.1) (fun v n' h' q => ?_)
  obtain ⟨e1, e2, qa, qb⟩ := q
  cases e1
  have e3 : n' = p + 20 := e2
  subst e3
  simp only [Option.toList, List.nil_append]
  refine J_putF dX0_init_64 rfl (fun q e => by cases e; rfl) f_X0_33 ((qb p (by omega)).trans ((jup_ne (by omega)).trans b5)) (Nat.le_of_ble_eq_true rfl) jfit_r ?_
  suffices key : ∀ z : jH, z p = (0, [.ref (p + 1), .ref (p + 12), .ref (p + 14), .ref (p + 16), .ref (p + 18), .null, .null, .null, .null, .null, .int 0, .int 0]) → (∀ k, p < k → k < p + 20 → z k = T0 k) → (∀ k, k < p → z k = h k) → jJ l G (Yx mX0_init) d 10 65 (p + 20) 67 [some (.ref p)] [] z (cK p (p + 30) h) from key _ jup_same (fun k g1 g2 => (jup_ne (by omega)).trans (rg_step a5 qa qb k g1 g2)) (fun k g => (jup_ne (by omega)).trans ((qb k (by omega)).trans ((jup_ne (by omega)).trans (f5 k g))))
  intro h6 b6 a6 f6
  refine J_aload_n dX0_init_67 rfl ?_
  refine J_new (N := 2) (bc := 9) (bs := 63) dX0_init_68 n_X0_18 ?_
  refine J_dup dX0_init_71 rfl ?_
  refine J_bipush (v := Int32.ofInt 19) dX0_init_72 (by decide) ?_
  refine J_callI (As := [vi 19]) (bc := 8) (bs := 44) (bc' := 1) (bs' := 19) (d' := 1) dX0_init_74 i_X0_20 rfl (Nat.le_of_ble_eq_true rfl) (by omega) (Nat.le_of_ble_eq_true rfl) (ini3 (kE20 hp) (cap0_20 hp) (Nat.le_refl _) jup_same) (fun E n' h' q => by cases q.1) (fun v n' h' q => ?_)
  obtain ⟨e1, e2, qa, qb⟩ := q
  cases e1
  have e3 : n' = p + 22 := e2
  subst e3
  simp only [Option.toList, List.nil_append]
  refine J_putF dX0_init_77 rfl (fun q e => by cases e; rfl) f_X0_36 ((qb p (by omega)).trans ((jup_ne (by omega)).trans b6)) (Nat.le_of_ble_eq_true rfl) jfit_r ?_
  suffices key : ∀ z : jH, z p = (0, [.ref (p + 1), .ref (p + 12), .ref (p + 14), .ref (p + 16), .ref (p + 18), .ref (p + 20), .null, .null, .null, .null, .int 0, .int 0]) → (∀ k, p < k → k < p + 22 → z k = T0 k) → (∀ k, k < p → z k = h k) → jJ l G (Yx mX0_init) d 8 44 (p + 22) 80 [some (.ref p)] [] z (cK p (p + 30) h) from key _ jup_same (fun k g1 g2 => (jup_ne (by omega)).trans (rg_step a6 qa qb k g1 g2)) (fun k g => (jup_ne (by omega)).trans ((qb k (by omega)).trans ((jup_ne (by omega)).trans (f6 k g))))
  intro h7 b7 a7 f7
  refine J_aload_n dX0_init_80 rfl ?_
  refine J_new (N := 2) (bc := 7) (bs := 42) dX0_init_81 n_X0_18 ?_
  refine J_dup dX0_init_84 rfl ?_
  refine J_bipush (v := Int32.ofInt 9) dX0_init_85 (by decide) ?_
  refine J_callI (As := [vi 9]) (bc := 6) (bs := 33) (bc' := 1) (bs' := 9) (d' := 1) dX0_init_87 i_X0_20 rfl (Nat.le_of_ble_eq_true rfl) (by omega) (Nat.le_of_ble_eq_true rfl) (ini3 (kE22 hp) (cap0_22 hp) (Nat.le_refl _) jup_same) (fun E n' h' q => by cases q.1) (fun v n' h' q => ?_)
  obtain ⟨e1, e2, qa, qb⟩ := q
  cases e1
  have e3 : n' = p + 24 := e2
  subst e3
  simp only [Option.toList, List.nil_append]
  refine J_putF dX0_init_90 rfl (fun q e => by cases e; rfl) f_X0_39 ((qb p (by omega)).trans ((jup_ne (by omega)).trans b7)) (Nat.le_of_ble_eq_true rfl) jfit_r ?_
  suffices key : ∀ z : jH, z p = (0, [.ref (p + 1), .ref (p + 12), .ref (p + 14), .ref (p + 16), .ref (p + 18), .ref (p + 20), .ref (p + 22), .null, .null, .null, .int 0, .int 0]) → (∀ k, p < k → k < p + 24 → z k = T0 k) → (∀ k, k < p → z k = h k) → jJ l G (Yx mX0_init) d 6 33 (p + 24) 93 [some (.ref p)] [] z (cK p (p + 30) h) from key _ jup_same (fun k g1 g2 => (jup_ne (by omega)).trans (rg_step a7 qa qb k g1 g2)) (fun k g => (jup_ne (by omega)).trans ((qb k (by omega)).trans ((jup_ne (by omega)).trans (f7 k g))))
  intro h8 b8 a8 f8
  refine J_aload_n dX0_init_93 rfl ?_
  refine J_new (N := 2) (bc := 5) (bs := 31) dX0_init_94 n_X0_18 ?_
  refine J_dup dX0_init_97 rfl ?_
  refine J_bipush (v := Int32.ofInt 9) dX0_init_98 (by decide) ?_
  refine J_callI (As := [vi 9]) (bc := 4) (bs := 22) (bc' := 1) (bs' := 9) (d' := 1) dX0_init_100 i_X0_20 rfl (Nat.le_of_ble_eq_true rfl) (by omega) (Nat.le_of_ble_eq_true rfl) (ini3 (kE24 hp) (cap0_24 hp) (Nat.le_refl _) jup_same) (fun E n' h' q => by cases q.1) (fun v n' h' q => ?_)
  obtain ⟨e1, e2, qa, qb⟩ := q
  cases e1
  have e3 : n' = p + 26 := e2
  subst e3
  simp only [Option.toList, List.nil_append]
  refine J_putF dX0_init_103 rfl (fun q e => by cases e; rfl) f_X0_42 ((qb p (by omega)).trans ((jup_ne (by omega)).trans b8)) (Nat.le_of_ble_eq_true rfl) jfit_r ?_
  suffices key : ∀ z : jH, z p = (0, [.ref (p + 1), .ref (p + 12), .ref (p + 14), .ref (p + 16), .ref (p + 18), .ref (p + 20), .ref (p + 22), .ref (p + 24), .null, .null, .int 0, .int 0]) → (∀ k, p < k → k < p + 26 → z k = T0 k) → (∀ k, k < p → z k = h k) → jJ l G (Yx mX0_init) d 4 22 (p + 26) 106 [some (.ref p)] [] z (cK p (p + 30) h) from key _ jup_same (fun k g1 g2 => (jup_ne (by omega)).trans (rg_step a8 qa qb k g1 g2)) (fun k g => (jup_ne (by omega)).trans ((qb k (by omega)).trans ((jup_ne (by omega)).trans (f8 k g))))
  intro h9 b9 a9 f9
  refine J_aload_n dX0_init_106 rfl ?_
  refine J_new (N := 2) (bc := 3) (bs := 20) dX0_init_107 n_X0_18 ?_
  refine J_dup dX0_init_110 rfl ?_
  refine J_bipush (v := Int32.ofInt 9) dX0_init_111 (by decide) ?_
  refine J_callI (As := [vi 9]) (bc := 2) (bs := 11) (bc' := 1) (bs' := 9) (d' := 1) dX0_init_113 i_X0_20 rfl (Nat.le_of_ble_eq_true rfl) (by omega) (Nat.le_of_ble_eq_true rfl) (ini3 (kE26 hp) (cap0_26 hp) (Nat.le_refl _) jup_same) (fun E n' h' q => by cases q.1) (fun v n' h' q => ?_)
  obtain ⟨e1, e2, qa, qb⟩ := q
  cases e1
  have e3 : n' = p + 28 := e2
  subst e3
  simp only [Option.toList, List.nil_append]
  refine J_putF dX0_init_116 rfl (fun q e => by cases e; rfl) f_X0_45 ((qb p (by omega)).trans ((jup_ne (by omega)).trans b9)) (Nat.le_of_ble_eq_true rfl) jfit_r ?_
  suffices key : ∀ z : jH, z p = (0, [.ref (p + 1), .ref (p + 12), .ref (p + 14), .ref (p + 16), .ref (p + 18), .ref (p + 20), .ref (p + 22), .ref (p + 24), .ref (p + 26), .null, .int 0, .int 0]) → (∀ k, p < k → k < p + 28 → z k = T0 k) → (∀ k, k < p → z k = h k) → jJ l G (Yx mX0_init) d 2 11 (p + 28) 119 [some (.ref p)] [] z (cK p (p + 30) h) from key _ jup_same (fun k g1 g2 => (jup_ne (by omega)).trans (rg_step a9 qa qb k g1 g2)) (fun k g => (jup_ne (by omega)).trans ((qb k (by omega)).trans ((jup_ne (by omega)).trans (f9 k g))))
  intro h10 b10 a10 f10
  refine J_aload_n dX0_init_119 rfl ?_
  refine J_new (N := 2) (bc := 1) (bs := 9) dX0_init_120 n_X0_18 ?_
  refine J_dup dX0_init_123 rfl ?_
  refine J_bipush (v := Int32.ofInt 9) dX0_init_124 (by decide) ?_
  refine J_callI (As := [vi 9]) (bc := 0) (bs := 0) (bc' := 1) (bs' := 9) (d' := 1) dX0_init_126 i_X0_20 rfl (Nat.le_of_ble_eq_true rfl) (by omega) (Nat.le_of_ble_eq_true rfl) (ini3 (kE28 hp) (cap0_28 hp) (Nat.le_refl _) jup_same) (fun E n' h' q => by cases q.1) (fun v n' h' q => ?_)
  obtain ⟨e1, e2, qa, qb⟩ := q
  cases e1
  have e3 : n' = p + 30 := e2
  subst e3
  simp only [Option.toList, List.nil_append]
  refine J_putF dX0_init_129 rfl (fun q e => by cases e; rfl) f_X0_48 ((qb p (by omega)).trans ((jup_ne (by omega)).trans b10)) (Nat.le_of_ble_eq_true rfl) jfit_r ?_
  suffices key : ∀ z : jH, z p = (0, [.ref (p + 1), .ref (p + 12), .ref (p + 14), .ref (p + 16), .ref (p + 18), .ref (p + 20), .ref (p + 22), .ref (p + 24), .ref (p + 26), .ref (p + 28), .int 0, .int 0]) → (∀ k, p < k → k < p + 30 → z k = T0 k) → (∀ k, k < p → z k = h k) → jJ l G (Yx mX0_init) d 0 0 (p + 30) 132 [some (.ref p)] [] z (cK p (p + 30) h) from key _ jup_same (fun k g1 g2 => (jup_ne (by omega)).trans (rg_step a10 qa qb k g1 g2)) (fun k g => (jup_ne (by omega)).trans ((qb k (by omega)).trans ((jup_ne (by omega)).trans (f10 k g))))
  intro h11 b11 a11 f11
  refine J_aload_n dX0_init_132 rfl ?_
  refine J_iconst (v := Int32.ofInt 0) dX0_init_133 (by decide) ?_
  refine J_put dX0_init_134 f_X0_51 b11 (Nat.le_of_ble_eq_true rfl) jfit_i ?_
  suffices key : ∀ z : jH, z p = (0, [.ref (p + 1), .ref (p + 12), .ref (p + 14), .ref (p + 16), .ref (p + 18), .ref (p + 20), .ref (p + 22), .ref (p + 24), .ref (p + 26), .ref (p + 28), vi 0, .int 0]) → (∀ k, p < k → k < p + 30 → z k = T0 k) → (∀ k, k < p → z k = h k) → jJ l G (Yx mX0_init) d 0 0 (p + 30) 137 [some (.ref p)] [] z (cK p (p + 30) h) from key _ jup_same (fun k g1 g2 => (jup_ne (by omega)).trans (a11 k g1 g2)) (fun k g => (jup_ne (by omega)).trans (f11 k g))
  intro h12 b12 a12 f12
  refine J_aload_n dX0_init_137 rfl ?_
  refine J_iconst (v := Int32.ofInt 0) dX0_init_138 (by decide) ?_
  refine J_put dX0_init_139 f_X0_55 b12 (Nat.le_of_ble_eq_true rfl) jfit_i ?_
  suffices key : ∀ z : jH, z p = (0, [.ref (p + 1), .ref (p + 12), .ref (p + 14), .ref (p + 16), .ref (p + 18), .ref (p + 20), .ref (p + 22), .ref (p + 24), .ref (p + 26), .ref (p + 28), vi 0, vi 0]) → (∀ k, p < k → k < p + 30 → z k = T0 k) → (∀ k, k < p → z k = h k) → jJ l G (Yx mX0_init) d 0 0 (p + 30) 142 [some (.ref p)] [] z (cK p (p + 30) h) from key _ jup_same (fun k g1 g2 => (jup_ne (by omega)).trans (a12 k g1 g2)) (fun k g => (jup_ne (by omega)).trans (f12 k g))
  intro h13 b13 a13 f13
  refine J_vret dX0_init_142 rfl ⟨rfl, rfl, fun k g1 g2 => ?_, f13⟩
  rcases Nat.lt_or_ge p k with g | g
  · exact a13 k g g2
  · have e : k = p := by omega
    subst e; rw [b13, T0_0 hp]
