def c_segmentCount (σ : cS) (p : Nat) : Int := (σ.1 (p + 1)).length
theorem t_segmentCount {l : Launch} {G : jG} {d : Nat} {σ : cS} {p : Nat} (hw : wf σ) (hd : 1 ≤ d) (hp : kd p = 2) : CJ jCls jown l G (Yx mX2_segmentCount) d 0 0 0 [some (.ref p)] [] σ (det (some (vi (c_segmentCount σ p))) σ) := by
  refine C_aload_n dX2_segmentCount_0 rfl ?_
  refine C_get dX2_segmentCount_1 f_X2_14 (fun h hc => ⟨_, hc.2.1 _ hp, rfl⟩) ?_
  refine D_callV (As := []) (d' := 0) (row_size hw (kP1 hp)) dX2_segmentCount_4 v_X2_38 (fun h hc => ⟨_, (hc.1 _ (kP1 hp)).1⟩) rfl (Nat.le_of_ble_eq_true rfl) (by omega) (Nat.le_of_ble_eq_true rfl) ?_
  simp only [Option.toList, List.nil_append, List.cons_append]
  have r_4 := hw.len (kP1 hp)
  refine C_iret dX2_segmentCount_7 rfl ?_
  unfold det; rw [c_segmentCount]; exact ⟨rfl, rfl⟩
theorem r_segmentCount {σ : cS} {p : Nat} (hw : wf σ) (hp : kd p = 2) : 0 ≤ (c_segmentCount σ p) ∧ (c_segmentCount σ p) < 2001 := by
  unfold c_segmentCount
  have r_4 := hw.len (kP1 hp)
  omega
def c_tagOf (σ : cS) (p : Nat) (i : Int) : Int := (rat (σ.1 (p + 1)) i)
theorem t_tagOf {l : Launch} {G : jG} {d : Nat} {σ : cS} {p : Nat} {i : Int} (hw : wf σ) (hd : 1 ≤ d) (hp : kd p = 2) (hi : rg i) : CJ jCls jown l G (Yx mX2_tagOf) d 0 0 0 [some (.ref p), some (vi i)] [] σ (det (some (vi (c_tagOf σ p i))) σ) := by
  refine C_aload_n dX2_tagOf_0 rfl ?_
  refine C_get dX2_tagOf_1 f_X2_14 (fun h hc => ⟨_, hc.2.1 _ hp, rfl⟩) ?_
  refine C_iload_n dX2_tagOf_4 rfl ?_
  refine D_callV (As := [vi _]) (d' := 0) (row_at hw (kP1 hp) (by omega)) dX2_tagOf_5 v_X2_42 (fun h hc => ⟨_, (hc.1 _ (kP1 hp)).1⟩) rfl (Nat.le_of_ble_eq_true rfl) (by omega) (Nat.le_of_ble_eq_true rfl) ?_
  simp only [Option.toList, List.nil_append, List.cons_append]
  have r_5 := hw.ra2 (kP1 hp) i
  refine C_iret dX2_tagOf_8 rfl ?_
  unfold det; rw [c_tagOf]; exact ⟨rfl, rfl⟩
theorem r_tagOf {σ : cS} {p : Nat} {i : Int} (hw : wf σ) (hp : kd p = 2) (hi : rg i) : -3000 ≤ (c_tagOf σ p i) ∧ (c_tagOf σ p i) < 100000000 := by
  unfold c_tagOf
  have r_5 := hw.ra2 (kP1 hp) i
  omega
def c_firstElement (σ : cS) (p : Nat) (i : Int) : Int := (rat (σ.1 (p + 3)) i)
theorem t_firstElement {l : Launch} {G : jG} {d : Nat} {σ : cS} {p : Nat} {i : Int} (hw : wf σ) (hd : 1 ≤ d) (hp : kd p = 2) (hi : rg i) : CJ jCls jown l G (Yx mX2_firstElement) d 0 0 0 [some (.ref p), some (vi i)] [] σ (det (some (vi (c_firstElement σ p i))) σ) := by
  refine C_aload_n dX2_firstElement_0 rfl ?_
  refine C_get dX2_firstElement_1 f_X2_20 (fun h hc => ⟨_, hc.2.1 _ hp, rfl⟩) ?_
  refine C_iload_n dX2_firstElement_4 rfl ?_
  refine D_callV (As := [vi _]) (d' := 0) (row_at hw (kP3 hp) (by omega)) dX2_firstElement_5 v_X2_42 (fun h hc => ⟨_, (hc.1 _ (kP3 hp)).1⟩) rfl (Nat.le_of_ble_eq_true rfl) (by omega) (Nat.le_of_ble_eq_true rfl) ?_
  simp only [Option.toList, List.nil_append, List.cons_append]
  have r_5 := hw.ra2 (kP3 hp) i
  refine C_iret dX2_firstElement_8 rfl ?_
  unfold det; rw [c_firstElement]; exact ⟨rfl, rfl⟩
theorem r_firstElement {σ : cS} {p : Nat} {i : Int} (hw : wf σ) (hp : kd p = 2) (hi : rg i) : -3000 ≤ (c_firstElement σ p i) ∧ (c_firstElement σ p i) < 100000000 := by
  unfold c_firstElement
  have r_5 := hw.ra2 (kP3 hp) i
  omega
def c_firstComponent (σ : cS) (p : Nat) (i : Int) : Int := (rat (σ.1 (p + 5)) i)
theorem t_firstComponent {l : Launch} {G : jG} {d : Nat} {σ : cS} {p : Nat} {i : Int} (hw : wf σ) (hd : 1 ≤ d) (hp : kd p = 2) (hi : rg i) : CJ jCls jown l G (Yx mX2_firstComponent) d 0 0 0 [some (.ref p), some (vi i)] [] σ (det (some (vi (c_firstComponent σ p i))) σ) := by
  refine C_aload_n dX2_firstComponent_0 rfl ?_
  refine C_get dX2_firstComponent_1 f_X2_23 (fun h hc => ⟨_, hc.2.1 _ hp, rfl⟩) ?_
  refine C_iload_n dX2_firstComponent_4 rfl ?_
  refine D_callV (As := [vi _]) (d' := 0) (row_at hw (kP5 hp) (by omega)) dX2_firstComponent_5 v_X2_42 (fun h hc => ⟨_, (hc.1 _ (kP5 hp)).1⟩) rfl (Nat.le_of_ble_eq_true rfl) (by omega) (Nat.le_of_ble_eq_true rfl) ?_
  simp only [Option.toList, List.nil_append, List.cons_append]
  have r_5 := hw.ra2 (kP5 hp) i
  refine C_iret dX2_firstComponent_8 rfl ?_
  unfold det; rw [c_firstComponent]; exact ⟨rfl, rfl⟩
theorem r_firstComponent {σ : cS} {p : Nat} {i : Int} (hw : wf σ) (hp : kd p = 2) (hi : rg i) : -3000 ≤ (c_firstComponent σ p i) ∧ (c_firstComponent σ p i) < 100000000 := by
  unfold c_firstComponent
  have r_5 := hw.ra2 (kP5 hp) i
  omega
def c_isFull (σ : cS) (p : Nat) : Bool := (if (σ.1 (p + 7)).length < 120 then false else true)
theorem t_isFull {l : Launch} {G : jG} {d : Nat} {σ : cS} {p : Nat} (hw : wf σ) (hd : 1 ≤ d) (hp : kd p = 2) : CJ jCls jown l G (Yx mX2_isFull) d 0 0 0 [some (.ref p)] [] σ (det (some (vi (bz (c_isFull σ p)))) σ) := by
  refine C_aload_n dX2_isFull_0 rfl ?_
  refine C_get dX2_isFull_1 f_X2_26 (fun h hc => ⟨_, hc.2.1 _ hp, rfl⟩) ?_
  refine D_callV (As := []) (d' := 0) (row_size hw (kP7 hp)) dX2_isFull_4 v_X2_38 (fun h hc => ⟨_, (hc.1 _ (kP7 hp)).1⟩) rfl (Nat.le_of_ble_eq_true rfl) (by omega) (Nat.le_of_ble_eq_true rfl) ?_
  simp only [Option.toList, List.nil_append, List.cons_append]
  have r_4 := hw.len (kP7 hp)
  refine C_bipush dX2_isFull_7 (by decide) ?_
  refine C_icmp_lt (tgt := 16) dX2_isFull_9 (by decide) (by omega) (by omega) (fun c_9 => ?_) (fun c_9 => ?_)
  · refine C_iconst dX2_isFull_16 ?_
    refine C_zret dX2_isFull_17 rfl (by first | exact Or.inl rfl | exact Or.inr rfl | exact bz_01 _) ?_
    unfold det; rw [c_isFull, if_pos (by omega)]; exact ⟨rfl, rfl⟩
  · refine C_iconst dX2_isFull_12 ?_
    refine C_goto (tgt := 17) dX2_isFull_13 (by decide) ?_
    refine C_zret dX2_isFull_17 rfl (by first | exact Or.inl rfl | exact Or.inr rfl | exact bz_01 _) ?_
    unfold det; rw [c_isFull, if_neg (by omega)]; exact ⟨rfl, rfl⟩
def c_elementAt (σ : cS) (p : Nat) (s : Int) (e : Int) : Int := (if s < 0 then (-1) else (if (σ.1 (p + 1)).length ≤ s then (-1) else (if 0 ≤ e then (if ((rat (σ.1 (p + 3)) (s + 1)) - (rat (σ.1 (p + 3)) s)) ≤ e then (-1) else ((rat (σ.1 (p + 3)) s) + e)) else (-1))))
theorem t_elementAt {l : Launch} {G : jG} {d : Nat} {σ : cS} {p : Nat} {s : Int} {e : Int} (hw : wf σ) (hd : 1 ≤ d) (hp : kd p = 2) (hs : rg s) (he : rg e) : CJ jCls jown l G (Yx mX2_elementAt) d 0 0 0 [some (.ref p), some (vi s), some (vi e), none] [] σ (det (some (vi (c_elementAt σ p s e))) σ) := by
  refine C_iload_n dX2_elementAt_0 rfl ?_
  refine C_if_lt (tgt := 19) dX2_elementAt_1 (by decide) (by omega) (fun c_1 => ?_) (fun c_1 => ?_)
  · refine C_iconst dX2_elementAt_19 ?_
    refine C_iret dX2_elementAt_20 rfl ?_
    unfold det; rw [c_elementAt, if_pos (by omega)]; exact ⟨rfl, rfl⟩
  · refine C_iload_n dX2_elementAt_4 rfl ?_
    refine C_aload_n dX2_elementAt_5 rfl ?_
    refine C_get dX2_elementAt_6 f_X2_14 (fun h hc => ⟨_, hc.2.1 _ hp, rfl⟩) ?_
    refine D_callV (As := []) (d' := 0) (row_size hw (kP1 hp)) dX2_elementAt_9 v_X2_38 (fun h hc => ⟨_, (hc.1 _ (kP1 hp)).1⟩) rfl (Nat.le_of_ble_eq_true rfl) (by omega) (Nat.le_of_ble_eq_true rfl) ?_
    simp only [Option.toList, List.nil_append, List.cons_append]
    have r_9 := hw.len (kP1 hp)
    refine C_icmp_ge (tgt := 19) dX2_elementAt_12 (by decide) (by omega) (by omega) (fun c_12 => ?_) (fun c_12 => ?_)
    · refine C_iconst dX2_elementAt_19 ?_
      refine C_iret dX2_elementAt_20 rfl ?_
      unfold det; rw [c_elementAt, if_neg (by omega), if_pos (by omega)]; exact ⟨rfl, rfl⟩
    · refine C_iload_n dX2_elementAt_15 rfl ?_
      refine C_if_ge (tgt := 21) dX2_elementAt_16 (by decide) (by omega) (fun c_16 => ?_) (fun c_16 => ?_)
      · refine C_aload_n dX2_elementAt_21 rfl ?_
        refine C_get dX2_elementAt_22 f_X2_20 (fun h hc => ⟨_, hc.2.1 _ hp, rfl⟩) ?_
        refine C_iload_n dX2_elementAt_25 rfl ?_
        refine D_callV (As := [vi _]) (d' := 0) (row_at hw (kP3 hp) (by omega)) dX2_elementAt_26 v_X2_42 (fun h hc => ⟨_, (hc.1 _ (kP3 hp)).1⟩) rfl (Nat.le_of_ble_eq_true rfl) (by omega) (Nat.le_of_ble_eq_true rfl) ?_
        simp only [Option.toList, List.nil_append, List.cons_append]
        have r_26 := hw.ra2 (kP3 hp) s
        refine C_istore_n dX2_elementAt_29 (by decide) rfl ?_
        simp only [List.set_cons_zero, List.set_cons_succ, jfin0, jfin1, jfin2, jfin3]
        refine C_iload_n dX2_elementAt_30 rfl ?_
        refine C_aload_n dX2_elementAt_31 rfl ?_
        refine C_get dX2_elementAt_32 f_X2_20 (fun h hc => ⟨_, hc.2.1 _ hp, rfl⟩) ?_
        refine C_iload_n dX2_elementAt_35 rfl ?_
        refine C_iconst dX2_elementAt_36 ?_
        refine C_iadd dX2_elementAt_37 ?_
        refine D_callV (As := [vi _]) (d' := 0) (row_at hw (kP3 hp) (by omega)) dX2_elementAt_38 v_X2_42 (fun h hc => ⟨_, (hc.1 _ (kP3 hp)).1⟩) rfl (Nat.le_of_ble_eq_true rfl) (by omega) (Nat.le_of_ble_eq_true rfl) ?_
        simp only [Option.toList, List.nil_append, List.cons_append]
        have r_38 := hw.ra2 (kP3 hp) (s + 1)
        refine C_iload_n dX2_elementAt_41 rfl ?_
        refine C_isub dX2_elementAt_42 ?_
        refine C_icmp_ge (tgt := 52) dX2_elementAt_43 (by decide) (by omega) (by omega) (fun c_43 => ?_) (fun c_43 => ?_)
        · refine C_iconst dX2_elementAt_52 ?_
          refine C_iret dX2_elementAt_53 rfl ?_
          unfold det; rw [c_elementAt, if_neg (by omega), if_neg (by omega), if_pos (by omega), if_pos (by omega)]; exact ⟨rfl, rfl⟩
        · refine C_iload_n dX2_elementAt_46 rfl ?_
          refine C_iload_n dX2_elementAt_47 rfl ?_
          refine C_iadd dX2_elementAt_48 ?_
          refine C_goto (tgt := 53) dX2_elementAt_49 (by decide) ?_
          refine C_iret dX2_elementAt_53 rfl ?_
          unfold det; rw [c_elementAt, if_neg (by omega), if_neg (by omega), if_pos (by omega), if_neg (by omega)]; exact ⟨rfl, rfl⟩
      · refine C_iconst dX2_elementAt_19 ?_
        refine C_iret dX2_elementAt_20 rfl ?_
        unfold det; rw [c_elementAt, if_neg (by omega), if_neg (by omega), if_neg (by omega)]; exact ⟨rfl, rfl⟩
theorem r_elementAt {σ : cS} {p : Nat} {s : Int} {e : Int} (hw : wf σ) (hp : kd p = 2) (hs : rg s) (he : rg e) : -400000000 ≤ (c_elementAt σ p s e) ∧ (c_elementAt σ p s e) < 400000000 := by
  unfold c_elementAt
  split
  · omega
  · split
    · have r_9 := hw.len (kP1 hp)
      omega
    · split
      · split
        · have r_9 := hw.len (kP1 hp)
          have r_26 := hw.ra2 (kP3 hp) s
          have r_38 := hw.ra2 (kP3 hp) (s + 1)
          omega
        · have r_9 := hw.len (kP1 hp)
          have r_26 := hw.ra2 (kP3 hp) s
          have r_38 := hw.ra2 (kP3 hp) (s + 1)
          omega
      · have r_9 := hw.len (kP1 hp)
        omega
def c_componentAt (σ : cS) (p : Nat) (s : Int) (e : Int) (c : Int) : Int := (if (c_elementAt σ p s e) = (-1) then (-1) else (if 0 ≤ c then (if ((rat (σ.1 (p + 5)) ((c_elementAt σ p s e) + 1)) - (rat (σ.1 (p + 5)) (c_elementAt σ p s e))) ≤ c then (-1) else ((rat (σ.1 (p + 5)) (c_elementAt σ p s e)) + c)) else (-1)))
theorem t_componentAt {l : Launch} {G : jG} {d : Nat} {σ : cS} {p : Nat} {s : Int} {e : Int} {c : Int} (hw : wf σ) (hd : 2 ≤ d) (hp : kd p = 2) (hs : rg s) (he : rg e) (hc : rg c) : CJ jCls jown l G (Yx mX2_componentAt) d 0 0 0 [some (.ref p), some (vi s), some (vi e), some (vi c), none, none] [] σ (det (some (vi (c_componentAt σ p s e c))) σ) := by
  refine C_aload_n dX2_componentAt_0 rfl ?_
  refine C_iload_n dX2_componentAt_1 rfl ?_
  refine C_iload_n dX2_componentAt_2 rfl ?_
  refine D_callV (As := [vi _, vi _]) (d' := 1) (t_elementAt hw (Nat.le_refl _) hp (by omega) (by omega)) dX2_componentAt_3 v_X2_46 (fun h hc => ⟨_, hc.2.1 _ hp⟩) rfl (Nat.le_of_ble_eq_true rfl) (by omega) (Nat.le_of_ble_eq_true rfl) ?_
  simp only [Option.toList, List.nil_append, List.cons_append]
  have r_3 := r_elementAt (p := p) (s := s) (e := e) hw hp (by omega) (by omega)
  refine C_istore dX2_componentAt_6 (by decide) rfl ?_
  simp only [List.set_cons_zero, List.set_cons_succ, jfin0, jfin1, jfin2, jfin3]
  refine C_iload dX2_componentAt_8 rfl ?_
  refine C_iconst dX2_componentAt_10 ?_
  refine C_icmp_eq (tgt := 18) dX2_componentAt_11 (by decide) (by omega) (by omega) (fun c_11 => ?_) (fun c_11 => ?_)
  · refine C_iconst dX2_componentAt_18 ?_
    refine C_iret dX2_componentAt_19 rfl ?_
    unfold det; rw [c_componentAt, if_pos (by omega)]; exact ⟨rfl, rfl⟩
  · refine C_iload_n dX2_componentAt_14 rfl ?_
    refine C_if_ge (tgt := 20) dX2_componentAt_15 (by decide) (by omega) (fun c_15 => ?_) (fun c_15 => ?_)
    · refine C_aload_n dX2_componentAt_20 rfl ?_
      refine C_get dX2_componentAt_21 f_X2_23 (fun h hc => ⟨_, hc.2.1 _ hp, rfl⟩) ?_
      refine C_iload dX2_componentAt_24 rfl ?_
      refine D_callV (As := [vi _]) (d' := 0) (row_at hw (kP5 hp) (by omega)) dX2_componentAt_26 v_X2_42 (fun h hc => ⟨_, (hc.1 _ (kP5 hp)).1⟩) rfl (Nat.le_of_ble_eq_true rfl) (by omega) (Nat.le_of_ble_eq_true rfl) ?_
      simp only [Option.toList, List.nil_append, List.cons_append]
      have r_26 := hw.ra2 (kP5 hp) (c_elementAt σ p s e)
      refine C_istore dX2_componentAt_29 (by decide) rfl ?_
      simp only [List.set_cons_zero, List.set_cons_succ, jfin0, jfin1, jfin2, jfin3]
      refine C_iload_n dX2_componentAt_31 rfl ?_
      refine C_aload_n dX2_componentAt_32 rfl ?_
      refine C_get dX2_componentAt_33 f_X2_23 (fun h hc => ⟨_, hc.2.1 _ hp, rfl⟩) ?_
      refine C_iload dX2_componentAt_36 rfl ?_
      refine C_iconst dX2_componentAt_38 ?_
      refine C_iadd dX2_componentAt_39 ?_
      refine D_callV (As := [vi _]) (d' := 0) (row_at hw (kP5 hp) (by omega)) dX2_componentAt_40 v_X2_42 (fun h hc => ⟨_, (hc.1 _ (kP5 hp)).1⟩) rfl (Nat.le_of_ble_eq_true rfl) (by omega) (Nat.le_of_ble_eq_true rfl) ?_
      simp only [Option.toList, List.nil_append, List.cons_append]
      have r_40 := hw.ra2 (kP5 hp) ((c_elementAt σ p s e) + 1)
      refine C_iload dX2_componentAt_43 rfl ?_
      refine C_isub dX2_componentAt_45 ?_
      refine C_icmp_ge (tgt := 56) dX2_componentAt_46 (by decide) (by omega) (by omega) (fun c_46 => ?_) (fun c_46 => ?_)
      · refine C_iconst dX2_componentAt_56 ?_
        refine C_iret dX2_componentAt_57 rfl ?_
        unfold det; rw [c_componentAt, if_neg (by omega), if_pos (by omega), if_pos (by omega)]; exact ⟨rfl, rfl⟩
      · refine C_iload dX2_componentAt_49 rfl ?_
        refine C_iload_n dX2_componentAt_51 rfl ?_
        refine C_iadd dX2_componentAt_52 ?_
        refine C_goto (tgt := 57) dX2_componentAt_53 (by decide) ?_
        refine C_iret dX2_componentAt_57 rfl ?_
        unfold det; rw [c_componentAt, if_neg (by omega), if_pos (by omega), if_neg (by omega)]; exact ⟨rfl, rfl⟩
    · refine C_iconst dX2_componentAt_18 ?_
      refine C_iret dX2_componentAt_19 rfl ?_
      unfold det; rw [c_componentAt, if_neg (by omega), if_neg (by omega)]; exact ⟨rfl, rfl⟩
theorem r_componentAt {σ : cS} {p : Nat} {s : Int} {e : Int} {c : Int} (hw : wf σ) (hp : kd p = 2) (hs : rg s) (he : rg e) (hc : rg c) : -400000000 ≤ (c_componentAt σ p s e c) ∧ (c_componentAt σ p s e c) < 400000000 := by
  unfold c_componentAt
  split
  · have r_3 := r_elementAt (p := p) (s := s) (e := e) hw hp (by omega) (by omega)
    omega
  · split
    · split
      · have r_3 := r_elementAt (p := p) (s := s) (e := e) hw hp (by omega) (by omega)
        have r_26 := hw.ra2 (kP5 hp) (c_elementAt σ p s e)
        have r_40 := hw.ra2 (kP5 hp) ((c_elementAt σ p s e) + 1)
        omega
      · have r_3 := r_elementAt (p := p) (s := s) (e := e) hw hp (by omega) (by omega)
        have r_26 := hw.ra2 (kP5 hp) (c_elementAt σ p s e)
        have r_40 := hw.ra2 (kP5 hp) ((c_elementAt σ p s e) + 1)
        omega
    · have r_3 := r_elementAt (p := p) (s := s) (e := e) hw hp (by omega) (by omega)
      omega
def c_widthOf (σ : cS) (p : Nat) (k : Int) : Int := (if k = (-1) then 0 else ((rat (σ.1 (p + 7)) (k + 1)) - (rat (σ.1 (p + 7)) k)))
theorem t_widthOf {l : Launch} {G : jG} {d : Nat} {σ : cS} {p : Nat} {k : Int} (hw : wf σ) (hd : 1 ≤ d) (hp : kd p = 2) (hk : -1000000000 ≤ k ∧ k < 1000000000) : CJ jCls jown l G (Yx mX2_widthOf) d 0 0 0 [some (.ref p), some (vi k)] [] σ (det (some (vi (c_widthOf σ p k))) σ) := by
  refine C_iload_n dX2_widthOf_0 rfl ?_
  refine C_iconst dX2_widthOf_1 ?_
  refine C_icmp_ne (tgt := 9) dX2_widthOf_2 (by decide) (by omega) (by omega) (fun c_2 => ?_) (fun c_2 => ?_)
  · refine C_aload_n dX2_widthOf_9 rfl ?_
    refine C_get dX2_widthOf_10 f_X2_26 (fun h hc => ⟨_, hc.2.1 _ hp, rfl⟩) ?_
    refine C_iload_n dX2_widthOf_13 rfl ?_
    refine C_iconst dX2_widthOf_14 ?_
    refine C_iadd dX2_widthOf_15 ?_
    refine D_callV (As := [vi _]) (d' := 0) (row_at hw (kP7 hp) (by omega)) dX2_widthOf_16 v_X2_42 (fun h hc => ⟨_, (hc.1 _ (kP7 hp)).1⟩) rfl (Nat.le_of_ble_eq_true rfl) (by omega) (Nat.le_of_ble_eq_true rfl) ?_
    simp only [Option.toList, List.nil_append, List.cons_append]
    have r_16 := hw.ra2 (kP7 hp) (k + 1)
    refine C_aload_n dX2_widthOf_19 rfl ?_
    refine C_get dX2_widthOf_20 f_X2_26 (fun h hc => ⟨_, hc.2.1 _ hp, rfl⟩) ?_
    refine C_iload_n dX2_widthOf_23 rfl ?_
    refine D_callV (As := [vi _]) (d' := 0) (row_at hw (kP7 hp) (by omega)) dX2_widthOf_24 v_X2_42 (fun h hc => ⟨_, (hc.1 _ (kP7 hp)).1⟩) rfl (Nat.le_of_ble_eq_true rfl) (by omega) (Nat.le_of_ble_eq_true rfl) ?_
    simp only [Option.toList, List.nil_append, List.cons_append]
    have r_24 := hw.ra2 (kP7 hp) k
    refine C_isub dX2_widthOf_27 ?_
    refine C_iret dX2_widthOf_28 rfl ?_
    unfold det; rw [c_widthOf, if_neg (by omega)]; exact ⟨rfl, rfl⟩
  · refine C_iconst dX2_widthOf_5 ?_
    refine C_goto (tgt := 28) dX2_widthOf_6 (by decide) ?_
    refine C_iret dX2_widthOf_28 rfl ?_
    unfold det; rw [c_widthOf, if_pos (by omega)]; exact ⟨rfl, rfl⟩
theorem r_widthOf {σ : cS} {p : Nat} {k : Int} (hw : wf σ) (hp : kd p = 2) (hk : -1000000000 ≤ k ∧ k < 1000000000) : -400000000 ≤ (c_widthOf σ p k) ∧ (c_widthOf σ p k) < 400000000 := by
  unfold c_widthOf
  split
  · omega
  · have r_16 := hw.ra2 (kP7 hp) (k + 1)
    have r_24 := hw.ra2 (kP7 hp) k
    omega
def c_characterOf (σ : cS) (p : Nat) (k : Int) (i : Int) : Int := (if i < 0 then (-1) else (if (c_widthOf σ p k) ≤ i then (-1) else (rat (σ.1 (p + 9)) ((rat (σ.1 (p + 7)) k) + i))))
theorem t_characterOf {l : Launch} {G : jG} {d : Nat} {σ : cS} {p : Nat} {k : Int} {i : Int} (hw : wf σ) (hd : 2 ≤ d) (hp : kd p = 2) (hk : -1000000000 ≤ k ∧ k < 1000000000) (hi : rg i) : CJ jCls jown l G (Yx mX2_characterOf) d 0 0 0 [some (.ref p), some (vi k), some (vi i)] [] σ (det (some (vi (c_characterOf σ p k i))) σ) := by
  refine C_iload_n dX2_characterOf_0 rfl ?_
  refine C_if_lt (tgt := 33) dX2_characterOf_1 (by decide) (by omega) (fun c_1 => ?_) (fun c_1 => ?_)
  · refine C_iconst dX2_characterOf_33 ?_
    refine C_iret dX2_characterOf_34 rfl ?_
    unfold det; rw [c_characterOf, if_pos (by omega)]; exact ⟨rfl, rfl⟩
  · refine C_iload_n dX2_characterOf_4 rfl ?_
    refine C_aload_n dX2_characterOf_5 rfl ?_
    refine C_iload_n dX2_characterOf_6 rfl ?_
    refine D_callV (As := [vi _]) (d' := 1) (t_widthOf hw (Nat.le_refl _) hp (by omega)) dX2_characterOf_7 v_X2_50 (fun h hc => ⟨_, hc.2.1 _ hp⟩) rfl (Nat.le_of_ble_eq_true rfl) (by omega) (Nat.le_of_ble_eq_true rfl) ?_
    simp only [Option.toList, List.nil_append, List.cons_append]
    have r_7 := r_widthOf (p := p) (k := k) hw hp (by omega)
    refine C_icmp_ge (tgt := 33) dX2_characterOf_10 (by decide) (by omega) (by omega) (fun c_10 => ?_) (fun c_10 => ?_)
    · refine C_iconst dX2_characterOf_33 ?_
      refine C_iret dX2_characterOf_34 rfl ?_
      unfold det; rw [c_characterOf, if_neg (by omega), if_pos (by omega)]; exact ⟨rfl, rfl⟩
    · refine C_aload_n dX2_characterOf_13 rfl ?_
      refine C_get dX2_characterOf_14 f_X2_29 (fun h hc => ⟨_, hc.2.1 _ hp, rfl⟩) ?_
      refine C_aload_n dX2_characterOf_17 rfl ?_
      refine C_get dX2_characterOf_18 f_X2_26 (fun h hc => ⟨_, hc.2.1 _ hp, rfl⟩) ?_
      refine C_iload_n dX2_characterOf_21 rfl ?_
      refine D_callV (As := [vi _]) (d' := 0) (row_at hw (kP7 hp) (by omega)) dX2_characterOf_22 v_X2_42 (fun h hc => ⟨_, (hc.1 _ (kP7 hp)).1⟩) rfl (Nat.le_of_ble_eq_true rfl) (by omega) (Nat.le_of_ble_eq_true rfl) ?_
      simp only [Option.toList, List.nil_append, List.cons_append]
      have r_22 := hw.ra2 (kP7 hp) k
      refine C_iload_n dX2_characterOf_25 rfl ?_
      refine C_iadd dX2_characterOf_26 ?_
      refine D_callV (As := [vi _]) (d' := 0) (row_at hw (kP9 hp) (by omega)) dX2_characterOf_27 v_X2_42 (fun h hc => ⟨_, (hc.1 _ (kP9 hp)).1⟩) rfl (Nat.le_of_ble_eq_true rfl) (by omega) (Nat.le_of_ble_eq_true rfl) ?_
      simp only [Option.toList, List.nil_append, List.cons_append]
      have r_27 := hw.ra2 (kP9 hp) ((rat (σ.1 (p + 7)) k) + i)
      refine C_goto (tgt := 34) dX2_characterOf_30 (by decide) ?_
      refine C_iret dX2_characterOf_34 rfl ?_
      unfold det; rw [c_characterOf, if_neg (by omega), if_neg (by omega)]; exact ⟨rfl, rfl⟩
theorem r_characterOf {σ : cS} {p : Nat} {k : Int} {i : Int} (hw : wf σ) (hp : kd p = 2) (hk : -1000000000 ≤ k ∧ k < 1000000000) (hi : rg i) : -3000 ≤ (c_characterOf σ p k i) ∧ (c_characterOf σ p k i) < 100000000 := by
  unfold c_characterOf
  split
  · omega
  · split
    · have r_7 := r_widthOf (p := p) (k := k) hw hp (by omega)
      omega
    · have r_7 := r_widthOf (p := p) (k := k) hw hp (by omega)
      have r_22 := hw.ra2 (kP7 hp) k
      have r_27 := hw.ra2 (kP9 hp) ((rat (σ.1 (p + 7)) k) + i)
      omega
def c_look (σ : cS) (p : Nat) (s : Int) (e : Int) (c : Int) (i : Int) : Int := (if s < 0 then (-1) else (if s < (σ.1 (p + 1)).length then (if e = (-2) then (rat (σ.1 (p + 1)) s) else (if e = (-1) then ((rat (σ.1 (p + 3)) (s + 1)) - (rat (σ.1 (p + 3)) s)) else (if (c_elementAt σ p s e) = (-1) then (-1) else (if c = (-1) then ((rat (σ.1 (p + 5)) ((c_elementAt σ p s e) + 1)) - (rat (σ.1 (p + 5)) (c_elementAt σ p s e))) else (if (c_componentAt σ p s e c) = (-1) then (-1) else (if i = (-1) then (c_widthOf σ p (c_componentAt σ p s e c)) else (c_characterOf σ p (c_componentAt σ p s e c) i))))))) else (-1)))
theorem t_look {l : Launch} {G : jG} {d : Nat} {σ : cS} {p : Nat} {s : Int} {e : Int} {c : Int} {i : Int} (hw : wf σ) (hd : 3 ≤ d) (hp : kd p = 2) (hs : rg s) (he : rg e) (hc : rg c) (hi : rg i) : CJ jCls jown l G (Yx mX2_look) d 0 0 0 [some (.ref p), some (vi s), some (vi e), some (vi c), some (vi i), none, none] [] σ (det (some (vi (c_look σ p s e c i))) σ) := by
  refine C_iload_n dX2_look_0 rfl ?_
  refine C_if_lt (tgt := 15) dX2_look_1 (by decide) (by omega) (fun c_1 => ?_) (fun c_1 => ?_)
  · refine C_iconst dX2_look_15 ?_
    refine C_iret dX2_look_16 rfl ?_
    unfold det; rw [c_look, if_pos (by omega)]; exact ⟨rfl, rfl⟩
  · refine C_iload_n dX2_look_4 rfl ?_
    refine C_aload_n dX2_look_5 rfl ?_
    refine C_get dX2_look_6 f_X2_14 (fun h hc => ⟨_, hc.2.1 _ hp, rfl⟩) ?_
    refine D_callV (As := []) (d' := 0) (row_size hw (kP1 hp)) dX2_look_9 v_X2_38 (fun h hc => ⟨_, (hc.1 _ (kP1 hp)).1⟩) rfl (Nat.le_of_ble_eq_true rfl) (by omega) (Nat.le_of_ble_eq_true rfl) ?_
    simp only [Option.toList, List.nil_append, List.cons_append]
    have r_9 := hw.len (kP1 hp)
    refine C_icmp_lt (tgt := 17) dX2_look_12 (by decide) (by omega) (by omega) (fun c_12 => ?_) (fun c_12 => ?_)
    · refine C_iload_n dX2_look_17 rfl ?_
      refine C_bipush dX2_look_18 (by decide) ?_
      refine C_icmp_ne (tgt := 32) dX2_look_20 (by decide) (by omega) (by omega) (fun c_20 => ?_) (fun c_20 => ?_)
      · refine C_iload_n dX2_look_32 rfl ?_
        refine C_iconst dX2_look_33 ?_
        refine C_icmp_ne (tgt := 57) dX2_look_34 (by decide) (by omega) (by omega) (fun c_34 => ?_) (fun c_34 => ?_)
        · refine C_aload_n dX2_look_57 rfl ?_
          refine C_iload_n dX2_look_58 rfl ?_
          refine C_iload_n dX2_look_59 rfl ?_
          refine D_callV (As := [vi _, vi _]) (d' := 1) (t_elementAt hw (Nat.le_refl _) hp (by omega) (by omega)) dX2_look_60 v_X2_46 (fun h hc => ⟨_, hc.2.1 _ hp⟩) rfl (Nat.le_of_ble_eq_true rfl) (by omega) (Nat.le_of_ble_eq_true rfl) ?_
          simp only [Option.toList, List.nil_append, List.cons_append]
          have r_60 := r_elementAt (p := p) (s := s) (e := e) hw hp (by omega) (by omega)
          refine C_istore dX2_look_63 (by decide) rfl ?_
          simp only [List.set_cons_zero, List.set_cons_succ, jfin0, jfin1, jfin2, jfin3]
          refine C_iload dX2_look_65 rfl ?_
          refine C_iconst dX2_look_67 ?_
          refine C_icmp_ne (tgt := 73) dX2_look_68 (by decide) (by omega) (by omega) (fun c_68 => ?_) (fun c_68 => ?_)
          · refine C_iload_n dX2_look_73 rfl ?_
            refine C_iconst dX2_look_74 ?_
            refine C_icmp_ne (tgt := 100) dX2_look_75 (by decide) (by omega) (by omega) (fun c_75 => ?_) (fun c_75 => ?_)
            · refine C_aload_n dX2_look_100 rfl ?_
              refine C_iload_n dX2_look_101 rfl ?_
              refine C_iload_n dX2_look_102 rfl ?_
              refine C_iload_n dX2_look_103 rfl ?_
              refine D_callV (As := [vi _, vi _, vi _]) (d' := 2) (t_componentAt hw (Nat.le_refl _) hp (by omega) (by omega) (by omega)) dX2_look_104 v_X2_53 (fun h hc => ⟨_, hc.2.1 _ hp⟩) rfl (Nat.le_of_ble_eq_true rfl) (by omega) (Nat.le_of_ble_eq_true rfl) ?_
              simp only [Option.toList, List.nil_append, List.cons_append]
              have r_104 := r_componentAt (p := p) (s := s) (e := e) (c := c) hw hp (by omega) (by omega) (by omega)
              refine C_istore dX2_look_107 (by decide) rfl ?_
              simp only [List.set_cons_zero, List.set_cons_succ, jfin0, jfin1, jfin2, jfin3]
              refine C_iload dX2_look_109 rfl ?_
              refine C_iconst dX2_look_111 ?_
              refine C_icmp_ne (tgt := 117) dX2_look_112 (by decide) (by omega) (by omega) (fun c_112 => ?_) (fun c_112 => ?_)
              · refine C_iload dX2_look_117 rfl ?_
                refine C_iconst dX2_look_119 ?_
                refine C_icmp_ne (tgt := 132) dX2_look_120 (by decide) (by omega) (by omega) (fun c_120 => ?_) (fun c_120 => ?_)
                · refine C_aload_n dX2_look_132 rfl ?_
                  refine C_iload dX2_look_133 rfl ?_
                  refine C_iload dX2_look_135 rfl ?_
                  refine D_callV (As := [vi _, vi _]) (d' := 2) (t_characterOf hw (Nat.le_refl _) hp (by omega) (by omega)) dX2_look_137 v_X2_57 (fun h hc => ⟨_, hc.2.1 _ hp⟩) rfl (Nat.le_of_ble_eq_true rfl) (by omega) (Nat.le_of_ble_eq_true rfl) ?_
                  simp only [Option.toList, List.nil_append, List.cons_append]
                  have r_137 := r_characterOf (p := p) (k := (c_componentAt σ p s e c)) (i := i) hw hp (by omega) (by omega)
                  refine C_iret dX2_look_140 rfl ?_
                  unfold det; rw [c_look, if_neg (by omega), if_pos (by omega), if_neg (by omega), if_neg (by omega), if_neg (by omega), if_neg (by omega), if_neg (by omega), if_neg (by omega)]; exact ⟨rfl, rfl⟩
                · refine C_aload_n dX2_look_123 rfl ?_
                  refine C_iload dX2_look_124 rfl ?_
                  refine D_callV (As := [vi _]) (d' := 1) (t_widthOf hw (Nat.le_refl _) hp (by omega)) dX2_look_126 v_X2_50 (fun h hc => ⟨_, hc.2.1 _ hp⟩) rfl (Nat.le_of_ble_eq_true rfl) (by omega) (Nat.le_of_ble_eq_true rfl) ?_
                  simp only [Option.toList, List.nil_append, List.cons_append]
                  have r_126 := r_widthOf (p := p) (k := (c_componentAt σ p s e c)) hw hp (by omega)
                  refine C_goto (tgt := 140) dX2_look_129 (by decide) ?_
                  refine C_iret dX2_look_140 rfl ?_
                  unfold det; rw [c_look, if_neg (by omega), if_pos (by omega), if_neg (by omega), if_neg (by omega), if_neg (by omega), if_neg (by omega), if_neg (by omega), if_pos (by omega)]; exact ⟨rfl, rfl⟩
              · refine C_iconst dX2_look_115 ?_
                refine C_iret dX2_look_116 rfl ?_
                unfold det; rw [c_look, if_neg (by omega), if_pos (by omega), if_neg (by omega), if_neg (by omega), if_neg (by omega), if_neg (by omega), if_pos (by omega)]; exact ⟨rfl, rfl⟩
            · refine C_aload_n dX2_look_78 rfl ?_
              refine C_get dX2_look_79 f_X2_23 (fun h hc => ⟨_, hc.2.1 _ hp, rfl⟩) ?_
              refine C_iload dX2_look_82 rfl ?_
              refine C_iconst dX2_look_84 ?_
              refine C_iadd dX2_look_85 ?_
              refine D_callV (As := [vi _]) (d' := 0) (row_at hw (kP5 hp) (by omega)) dX2_look_86 v_X2_42 (fun h hc => ⟨_, (hc.1 _ (kP5 hp)).1⟩) rfl (Nat.le_of_ble_eq_true rfl) (by omega) (Nat.le_of_ble_eq_true rfl) ?_
              simp only [Option.toList, List.nil_append, List.cons_append]
              have r_86 := hw.ra2 (kP5 hp) ((c_elementAt σ p s e) + 1)
              refine C_aload_n dX2_look_89 rfl ?_
              refine C_get dX2_look_90 f_X2_23 (fun h hc => ⟨_, hc.2.1 _ hp, rfl⟩) ?_
              refine C_iload dX2_look_93 rfl ?_
              refine D_callV (As := [vi _]) (d' := 0) (row_at hw (kP5 hp) (by omega)) dX2_look_95 v_X2_42 (fun h hc => ⟨_, (hc.1 _ (kP5 hp)).1⟩) rfl (Nat.le_of_ble_eq_true rfl) (by omega) (Nat.le_of_ble_eq_true rfl) ?_
              simp only [Option.toList, List.nil_append, List.cons_append]
              have r_95 := hw.ra2 (kP5 hp) (c_elementAt σ p s e)
              refine C_isub dX2_look_98 ?_
              refine C_iret dX2_look_99 rfl ?_
              unfold det; rw [c_look, if_neg (by omega), if_pos (by omega), if_neg (by omega), if_neg (by omega), if_neg (by omega), if_pos (by omega)]; exact ⟨rfl, rfl⟩
          · refine C_iconst dX2_look_71 ?_
            refine C_iret dX2_look_72 rfl ?_
            unfold det; rw [c_look, if_neg (by omega), if_pos (by omega), if_neg (by omega), if_neg (by omega), if_pos (by omega)]; exact ⟨rfl, rfl⟩
        · refine C_aload_n dX2_look_37 rfl ?_
          refine C_get dX2_look_38 f_X2_20 (fun h hc => ⟨_, hc.2.1 _ hp, rfl⟩) ?_
          refine C_iload_n dX2_look_41 rfl ?_
          refine C_iconst dX2_look_42 ?_
          refine C_iadd dX2_look_43 ?_
          refine D_callV (As := [vi _]) (d' := 0) (row_at hw (kP3 hp) (by omega)) dX2_look_44 v_X2_42 (fun h hc => ⟨_, (hc.1 _ (kP3 hp)).1⟩) rfl (Nat.le_of_ble_eq_true rfl) (by omega) (Nat.le_of_ble_eq_true rfl) ?_
          simp only [Option.toList, List.nil_append, List.cons_append]
          have r_44 := hw.ra2 (kP3 hp) (s + 1)
          refine C_aload_n dX2_look_47 rfl ?_
          refine C_get dX2_look_48 f_X2_20 (fun h hc => ⟨_, hc.2.1 _ hp, rfl⟩) ?_
          refine C_iload_n dX2_look_51 rfl ?_
          refine D_callV (As := [vi _]) (d' := 0) (row_at hw (kP3 hp) (by omega)) dX2_look_52 v_X2_42 (fun h hc => ⟨_, (hc.1 _ (kP3 hp)).1⟩) rfl (Nat.le_of_ble_eq_true rfl) (by omega) (Nat.le_of_ble_eq_true rfl) ?_
          simp only [Option.toList, List.nil_append, List.cons_append]
          have r_52 := hw.ra2 (kP3 hp) s
          refine C_isub dX2_look_55 ?_
          refine C_iret dX2_look_56 rfl ?_
          unfold det; rw [c_look, if_neg (by omega), if_pos (by omega), if_neg (by omega), if_pos (by omega)]; exact ⟨rfl, rfl⟩
      · refine C_aload_n dX2_look_23 rfl ?_
        refine C_get dX2_look_24 f_X2_14 (fun h hc => ⟨_, hc.2.1 _ hp, rfl⟩) ?_
        refine C_iload_n dX2_look_27 rfl ?_
        refine D_callV (As := [vi _]) (d' := 0) (row_at hw (kP1 hp) (by omega)) dX2_look_28 v_X2_42 (fun h hc => ⟨_, (hc.1 _ (kP1 hp)).1⟩) rfl (Nat.le_of_ble_eq_true rfl) (by omega) (Nat.le_of_ble_eq_true rfl) ?_
        simp only [Option.toList, List.nil_append, List.cons_append]
        have r_28 := hw.ra2 (kP1 hp) s
        refine C_iret dX2_look_31 rfl ?_
        unfold det; rw [c_look, if_neg (by omega), if_pos (by omega), if_pos (by omega)]; exact ⟨rfl, rfl⟩
    · refine C_iconst dX2_look_15 ?_
      refine C_iret dX2_look_16 rfl ?_
      unfold det; rw [c_look, if_neg (by omega), if_neg (by omega)]; exact ⟨rfl, rfl⟩
def c_pempty (σ : cS) (p : Nat) : cS := (cemp (cemp (cemp (cemp (cemp σ (p + 1)) (p + 3)) (p + 5)) (p + 7)) (p + 9))
theorem t_pempty {l : Launch} {G : jG} {d : Nat} {σ : cS} {p : Nat} (hw : wf σ) (hd : 1 ≤ d) (hp : kd p = 2) : CJ jCls jown l G (Yx mX2_empty) d 0 0 0 [some (.ref p)] [] σ (det none (c_pempty σ p)) := by
  refine C_aload_n dX2_empty_0 rfl ?_
  refine C_get dX2_empty_1 f_X2_14 (fun h hc => ⟨_, hc.2.1 _ hp, rfl⟩) ?_
  refine D_callV (As := []) (d' := 0) (row_empty hw (kP1 hp)) dX2_empty_4 v_X2_32 (fun h hc => ⟨_, (hc.1 _ (kP1 hp)).1⟩) rfl (Nat.le_of_ble_eq_true rfl) (by omega) (Nat.le_of_ble_eq_true rfl) ?_
  simp only [Option.toList, List.nil_append, List.cons_append]
  have hw1 : wf (cemp σ (p + 1)) := wf_emp hw
  refine C_aload_n dX2_empty_7 rfl ?_
  refine C_get dX2_empty_8 f_X2_20 (fun h hc => ⟨_, hc.2.1 _ hp, rfl⟩) ?_
  refine D_callV (As := []) (d' := 0) (row_empty hw1 (kP3 hp)) dX2_empty_11 v_X2_32 (fun h hc => ⟨_, (hc.1 _ (kP3 hp)).1⟩) rfl (Nat.le_of_ble_eq_true rfl) (by omega) (Nat.le_of_ble_eq_true rfl) ?_
  simp only [Option.toList, List.nil_append, List.cons_append]
  have hw2 : wf (cemp (cemp σ (p + 1)) (p + 3)) := wf_emp hw1
  refine C_aload_n dX2_empty_14 rfl ?_
  refine C_get dX2_empty_15 f_X2_23 (fun h hc => ⟨_, hc.2.1 _ hp, rfl⟩) ?_
  refine D_callV (As := []) (d' := 0) (row_empty hw2 (kP5 hp)) dX2_empty_18 v_X2_32 (fun h hc => ⟨_, (hc.1 _ (kP5 hp)).1⟩) rfl (Nat.le_of_ble_eq_true rfl) (by omega) (Nat.le_of_ble_eq_true rfl) ?_
  simp only [Option.toList, List.nil_append, List.cons_append]
  have hw3 : wf (cemp (cemp (cemp σ (p + 1)) (p + 3)) (p + 5)) := wf_emp hw2
  refine C_aload_n dX2_empty_21 rfl ?_
  refine C_get dX2_empty_22 f_X2_26 (fun h hc => ⟨_, hc.2.1 _ hp, rfl⟩) ?_
  refine D_callV (As := []) (d' := 0) (row_empty hw3 (kP7 hp)) dX2_empty_25 v_X2_32 (fun h hc => ⟨_, (hc.1 _ (kP7 hp)).1⟩) rfl (Nat.le_of_ble_eq_true rfl) (by omega) (Nat.le_of_ble_eq_true rfl) ?_
  simp only [Option.toList, List.nil_append, List.cons_append]
  have hw4 : wf (cemp (cemp (cemp (cemp σ (p + 1)) (p + 3)) (p + 5)) (p + 7)) := wf_emp hw3
  refine C_aload_n dX2_empty_28 rfl ?_
  refine C_get dX2_empty_29 f_X2_29 (fun h hc => ⟨_, hc.2.1 _ hp, rfl⟩) ?_
  refine D_callV (As := []) (d' := 0) (row_empty hw4 (kP9 hp)) dX2_empty_32 v_X2_32 (fun h hc => ⟨_, (hc.1 _ (kP9 hp)).1⟩) rfl (Nat.le_of_ble_eq_true rfl) (by omega) (Nat.le_of_ble_eq_true rfl) ?_
  simp only [Option.toList, List.nil_append, List.cons_append]
  have hw5 : wf (cemp (cemp (cemp (cemp (cemp σ (p + 1)) (p + 3)) (p + 5)) (p + 7)) (p + 9)) := wf_emp hw4
  refine C_vret dX2_empty_35 rfl ⟨rfl, ?_⟩
  rw [c_pempty]
theorem w_pempty {σ : cS} {p : Nat} (hw : wf σ) (hp : kd p = 2) : wf (c_pempty σ p) := by
  unfold c_pempty
  have hw1 : wf (cemp σ (p + 1)) := wf_emp hw
  have hw2 : wf (cemp (cemp σ (p + 1)) (p + 3)) := wf_emp hw1
  have hw3 : wf (cemp (cemp (cemp σ (p + 1)) (p + 3)) (p + 5)) := wf_emp hw2
  have hw4 : wf (cemp (cemp (cemp (cemp σ (p + 1)) (p + 3)) (p + 5)) (p + 7)) := wf_emp hw3
  have hw5 : wf (cemp (cemp (cemp (cemp (cemp σ (p + 1)) (p + 3)) (p + 5)) (p + 7)) (p + 9)) := wf_emp hw4
  exact hw5
theorem i_pempty {σ : cS} {p : Nat} : (c_pempty σ p).2 = σ.2 := by
  unfold c_pempty
  (repeat' split) <;> simp [cadd, cput, cemp]
def c_addSegment (σ : cS) (p : Nat) (v : Int) : cS := (cadd (cadd σ (p + 1) v) (p + 3) (((cadd σ (p + 1) v).1 (p + 5)).length))
theorem t_addSegment {l : Launch} {G : jG} {d : Nat} {σ : cS} {p : Nat} {v : Int} (hw : wf σ) (hd : 1 ≤ d) (hp : kd p = 2) (hv : -3000 ≤ v ∧ v < 100000000) : CJ jCls jown l G (Yx mX2_addSegment) d 0 0 0 [some (.ref p), some (vi v)] [] σ (det none (c_addSegment σ p v)) := by
  refine C_aload_n dX2_addSegment_0 rfl ?_
  refine C_get dX2_addSegment_1 f_X2_14 (fun h hc => ⟨_, hc.2.1 _ hp, rfl⟩) ?_
  refine C_iload_n dX2_addSegment_4 rfl ?_
  refine D_callV (As := [vi _]) (d' := 0) (row_add hw (kP1 hp) (by omega)) dX2_addSegment_5 v_X2_35 (fun h hc => ⟨_, (hc.1 _ (kP1 hp)).1⟩) rfl (Nat.le_of_ble_eq_true rfl) (by omega) (Nat.le_of_ble_eq_true rfl) ?_
  simp only [Option.toList, List.nil_append, List.cons_append]
  have hw1 : wf (cadd σ (p + 1) v) := wf_add hw (by omega)
  refine C_aload_n dX2_addSegment_8 rfl ?_
  refine C_get dX2_addSegment_9 f_X2_20 (fun h hc => ⟨_, hc.2.1 _ hp, rfl⟩) ?_
  refine C_aload_n dX2_addSegment_12 rfl ?_
  refine C_get dX2_addSegment_13 f_X2_23 (fun h hc => ⟨_, hc.2.1 _ hp, rfl⟩) ?_
  refine D_callV (As := []) (d' := 0) (row_size hw1 (kP5 hp)) dX2_addSegment_16 v_X2_38 (fun h hc => ⟨_, (hc.1 _ (kP5 hp)).1⟩) rfl (Nat.le_of_ble_eq_true rfl) (by omega) (Nat.le_of_ble_eq_true rfl) ?_
  simp only [Option.toList, List.nil_append, List.cons_append]
  have r_16 := hw1.len (kP5 hp)
  refine D_callV (As := [vi _]) (d' := 0) (row_add hw1 (kP3 hp) (by omega)) dX2_addSegment_19 v_X2_35 (fun h hc => ⟨_, (hc.1 _ (kP3 hp)).1⟩) rfl (Nat.le_of_ble_eq_true rfl) (by omega) (Nat.le_of_ble_eq_true rfl) ?_
  simp only [Option.toList, List.nil_append, List.cons_append]
  have hw2 : wf (cadd (cadd σ (p + 1) v) (p + 3) (((cadd σ (p + 1) v).1 (p + 5)).length)) := wf_add hw1 (by omega)
  refine C_vret dX2_addSegment_22 rfl ⟨rfl, ?_⟩
  rw [c_addSegment]
theorem w_addSegment {σ : cS} {p : Nat} {v : Int} (hw : wf σ) (hp : kd p = 2) (hv : -3000 ≤ v ∧ v < 100000000) : wf (c_addSegment σ p v) := by
  unfold c_addSegment
  have hw1 : wf (cadd σ (p + 1) v) := wf_add hw (by omega)
  have r_16 := hw1.len (kP5 hp)
  have hw2 : wf (cadd (cadd σ (p + 1) v) (p + 3) (((cadd σ (p + 1) v).1 (p + 5)).length)) := wf_add hw1 (by omega)
  exact hw2
theorem i_addSegment {σ : cS} {p : Nat} {v : Int} : (c_addSegment σ p v).2 = σ.2 := by
  unfold c_addSegment
  (repeat' split) <;> simp [cadd, cput, cemp, i_pempty]
def c_addElement (σ : cS) (p : Nat) : cS := (cadd σ (p + 5) ((σ.1 (p + 7)).length))
theorem t_addElement {l : Launch} {G : jG} {d : Nat} {σ : cS} {p : Nat} (hw : wf σ) (hd : 1 ≤ d) (hp : kd p = 2) : CJ jCls jown l G (Yx mX2_addElement) d 0 0 0 [some (.ref p)] [] σ (det none (c_addElement σ p)) := by
  refine C_aload_n dX2_addElement_0 rfl ?_
  refine C_get dX2_addElement_1 f_X2_23 (fun h hc => ⟨_, hc.2.1 _ hp, rfl⟩) ?_
  refine C_aload_n dX2_addElement_4 rfl ?_
  refine C_get dX2_addElement_5 f_X2_26 (fun h hc => ⟨_, hc.2.1 _ hp, rfl⟩) ?_
  refine D_callV (As := []) (d' := 0) (row_size hw (kP7 hp)) dX2_addElement_8 v_X2_38 (fun h hc => ⟨_, (hc.1 _ (kP7 hp)).1⟩) rfl (Nat.le_of_ble_eq_true rfl) (by omega) (Nat.le_of_ble_eq_true rfl) ?_
  simp only [Option.toList, List.nil_append, List.cons_append]
  have r_8 := hw.len (kP7 hp)
  refine D_callV (As := [vi _]) (d' := 0) (row_add hw (kP5 hp) (by omega)) dX2_addElement_11 v_X2_35 (fun h hc => ⟨_, (hc.1 _ (kP5 hp)).1⟩) rfl (Nat.le_of_ble_eq_true rfl) (by omega) (Nat.le_of_ble_eq_true rfl) ?_
  simp only [Option.toList, List.nil_append, List.cons_append]
  have hw1 : wf (cadd σ (p + 5) ((σ.1 (p + 7)).length)) := wf_add hw (by omega)
  refine C_vret dX2_addElement_14 rfl ⟨rfl, ?_⟩
  rw [c_addElement]
theorem w_addElement {σ : cS} {p : Nat} (hw : wf σ) (hp : kd p = 2) : wf (c_addElement σ p) := by
  unfold c_addElement
  have r_8 := hw.len (kP7 hp)
  have hw1 : wf (cadd σ (p + 5) ((σ.1 (p + 7)).length)) := wf_add hw (by omega)
  exact hw1
theorem i_addElement {σ : cS} {p : Nat} : (c_addElement σ p).2 = σ.2 := by
  unfold c_addElement
  (repeat' split) <;> simp [cadd, cput, cemp, i_addSegment, i_pempty]
def c_addComponent (σ : cS) (p : Nat) : cS := (cadd σ (p + 7) ((σ.1 (p + 9)).length))
theorem t_addComponent {l : Launch} {G : jG} {d : Nat} {σ : cS} {p : Nat} (hw : wf σ) (hd : 1 ≤ d) (hp : kd p = 2) : CJ jCls jown l G (Yx mX2_addComponent) d 0 0 0 [some (.ref p)] [] σ (det none (c_addComponent σ p)) := by
  refine C_aload_n dX2_addComponent_0 rfl ?_
  refine C_get dX2_addComponent_1 f_X2_26 (fun h hc => ⟨_, hc.2.1 _ hp, rfl⟩) ?_
  refine C_aload_n dX2_addComponent_4 rfl ?_
  refine C_get dX2_addComponent_5 f_X2_29 (fun h hc => ⟨_, hc.2.1 _ hp, rfl⟩) ?_
  refine D_callV (As := []) (d' := 0) (row_size hw (kP9 hp)) dX2_addComponent_8 v_X2_38 (fun h hc => ⟨_, (hc.1 _ (kP9 hp)).1⟩) rfl (Nat.le_of_ble_eq_true rfl) (by omega) (Nat.le_of_ble_eq_true rfl) ?_
  simp only [Option.toList, List.nil_append, List.cons_append]
  have r_8 := hw.len (kP9 hp)
  refine D_callV (As := [vi _]) (d' := 0) (row_add hw (kP7 hp) (by omega)) dX2_addComponent_11 v_X2_35 (fun h hc => ⟨_, (hc.1 _ (kP7 hp)).1⟩) rfl (Nat.le_of_ble_eq_true rfl) (by omega) (Nat.le_of_ble_eq_true rfl) ?_
  simp only [Option.toList, List.nil_append, List.cons_append]
  have hw1 : wf (cadd σ (p + 7) ((σ.1 (p + 9)).length)) := wf_add hw (by omega)
  refine C_vret dX2_addComponent_14 rfl ⟨rfl, ?_⟩
  rw [c_addComponent]
theorem w_addComponent {σ : cS} {p : Nat} (hw : wf σ) (hp : kd p = 2) : wf (c_addComponent σ p) := by
  unfold c_addComponent
  have r_8 := hw.len (kP9 hp)
  have hw1 : wf (cadd σ (p + 7) ((σ.1 (p + 9)).length)) := wf_add hw (by omega)
  exact hw1
theorem i_addComponent {σ : cS} {p : Nat} : (c_addComponent σ p).2 = σ.2 := by
  unfold c_addComponent
  (repeat' split) <;> simp [cadd, cput, cemp, i_addElement, i_addSegment, i_pempty]
def c_addCharacter (σ : cS) (p : Nat) (v : Int) : cS := (cadd σ (p + 9) v)
theorem t_addCharacter {l : Launch} {G : jG} {d : Nat} {σ : cS} {p : Nat} {v : Int} (hw : wf σ) (hd : 1 ≤ d) (hp : kd p = 2) (hv : -3000 ≤ v ∧ v < 100000000) : CJ jCls jown l G (Yx mX2_addCharacter) d 0 0 0 [some (.ref p), some (vi v)] [] σ (det none (c_addCharacter σ p v)) := by
  refine C_aload_n dX2_addCharacter_0 rfl ?_
  refine C_get dX2_addCharacter_1 f_X2_29 (fun h hc => ⟨_, hc.2.1 _ hp, rfl⟩) ?_
  refine C_iload_n dX2_addCharacter_4 rfl ?_
  refine D_callV (As := [vi _]) (d' := 0) (row_add hw (kP9 hp) (by omega)) dX2_addCharacter_5 v_X2_35 (fun h hc => ⟨_, (hc.1 _ (kP9 hp)).1⟩) rfl (Nat.le_of_ble_eq_true rfl) (by omega) (Nat.le_of_ble_eq_true rfl) ?_
  simp only [Option.toList, List.nil_append, List.cons_append]
  have hw1 : wf (cadd σ (p + 9) v) := wf_add hw (by omega)
  refine C_vret dX2_addCharacter_8 rfl ⟨rfl, ?_⟩
  rw [c_addCharacter]
theorem w_addCharacter {σ : cS} {p : Nat} {v : Int} (hw : wf σ) (hp : kd p = 2) (hv : -3000 ≤ v ∧ v < 100000000) : wf (c_addCharacter σ p v) := by
  unfold c_addCharacter
  have hw1 : wf (cadd σ (p + 9) v) := wf_add hw (by omega)
  exact hw1
theorem i_addCharacter {σ : cS} {p : Nat} {v : Int} : (c_addCharacter σ p v).2 = σ.2 := by
  unfold c_addCharacter
  (repeat' split) <;> simp [cadd, cput, cemp, i_addComponent, i_addElement, i_addSegment, i_pempty]
def c_finish (σ : cS) (p : Nat) : cS := (cadd (cadd (cadd σ (p + 3) ((σ.1 (p + 5)).length)) (p + 5) (((cadd σ (p + 3) ((σ.1 (p + 5)).length)).1 (p + 7)).length)) (p + 7) (((cadd (cadd σ (p + 3) ((σ.1 (p + 5)).length)) (p + 5) (((cadd σ (p + 3) ((σ.1 (p + 5)).length)).1 (p + 7)).length)).1 (p + 9)).length))
theorem t_finish {l : Launch} {G : jG} {d : Nat} {σ : cS} {p : Nat} (hw : wf σ) (hd : 1 ≤ d) (hp : kd p = 2) : CJ jCls jown l G (Yx mX2_finish) d 0 0 0 [some (.ref p)] [] σ (det none (c_finish σ p)) := by
  refine C_aload_n dX2_finish_0 rfl ?_
  refine C_get dX2_finish_1 f_X2_20 (fun h hc => ⟨_, hc.2.1 _ hp, rfl⟩) ?_
  refine C_aload_n dX2_finish_4 rfl ?_
  refine C_get dX2_finish_5 f_X2_23 (fun h hc => ⟨_, hc.2.1 _ hp, rfl⟩) ?_
  refine D_callV (As := []) (d' := 0) (row_size hw (kP5 hp)) dX2_finish_8 v_X2_38 (fun h hc => ⟨_, (hc.1 _ (kP5 hp)).1⟩) rfl (Nat.le_of_ble_eq_true rfl) (by omega) (Nat.le_of_ble_eq_true rfl) ?_
  simp only [Option.toList, List.nil_append, List.cons_append]
  have r_8 := hw.len (kP5 hp)
  refine D_callV (As := [vi _]) (d' := 0) (row_add hw (kP3 hp) (by omega)) dX2_finish_11 v_X2_35 (fun h hc => ⟨_, (hc.1 _ (kP3 hp)).1⟩) rfl (Nat.le_of_ble_eq_true rfl) (by omega) (Nat.le_of_ble_eq_true rfl) ?_
  simp only [Option.toList, List.nil_append, List.cons_append]
  have hw1 : wf (cadd σ (p + 3) ((σ.1 (p + 5)).length)) := wf_add hw (by omega)
  refine C_aload_n dX2_finish_14 rfl ?_
  refine C_get dX2_finish_15 f_X2_23 (fun h hc => ⟨_, hc.2.1 _ hp, rfl⟩) ?_
  refine C_aload_n dX2_finish_18 rfl ?_
  refine C_get dX2_finish_19 f_X2_26 (fun h hc => ⟨_, hc.2.1 _ hp, rfl⟩) ?_
  refine D_callV (As := []) (d' := 0) (row_size hw1 (kP7 hp)) dX2_finish_22 v_X2_38 (fun h hc => ⟨_, (hc.1 _ (kP7 hp)).1⟩) rfl (Nat.le_of_ble_eq_true rfl) (by omega) (Nat.le_of_ble_eq_true rfl) ?_
  simp only [Option.toList, List.nil_append, List.cons_append]
  have r_22 := hw1.len (kP7 hp)
  refine D_callV (As := [vi _]) (d' := 0) (row_add hw1 (kP5 hp) (by omega)) dX2_finish_25 v_X2_35 (fun h hc => ⟨_, (hc.1 _ (kP5 hp)).1⟩) rfl (Nat.le_of_ble_eq_true rfl) (by omega) (Nat.le_of_ble_eq_true rfl) ?_
  simp only [Option.toList, List.nil_append, List.cons_append]
  have hw2 : wf (cadd (cadd σ (p + 3) ((σ.1 (p + 5)).length)) (p + 5) (((cadd σ (p + 3) ((σ.1 (p + 5)).length)).1 (p + 7)).length)) := wf_add hw1 (by omega)
  refine C_aload_n dX2_finish_28 rfl ?_
  refine C_get dX2_finish_29 f_X2_26 (fun h hc => ⟨_, hc.2.1 _ hp, rfl⟩) ?_
  refine C_aload_n dX2_finish_32 rfl ?_
  refine C_get dX2_finish_33 f_X2_29 (fun h hc => ⟨_, hc.2.1 _ hp, rfl⟩) ?_
  refine D_callV (As := []) (d' := 0) (row_size hw2 (kP9 hp)) dX2_finish_36 v_X2_38 (fun h hc => ⟨_, (hc.1 _ (kP9 hp)).1⟩) rfl (Nat.le_of_ble_eq_true rfl) (by omega) (Nat.le_of_ble_eq_true rfl) ?_
  simp only [Option.toList, List.nil_append, List.cons_append]
  have r_36 := hw2.len (kP9 hp)
  refine D_callV (As := [vi _]) (d' := 0) (row_add hw2 (kP7 hp) (by omega)) dX2_finish_39 v_X2_35 (fun h hc => ⟨_, (hc.1 _ (kP7 hp)).1⟩) rfl (Nat.le_of_ble_eq_true rfl) (by omega) (Nat.le_of_ble_eq_true rfl) ?_
  simp only [Option.toList, List.nil_append, List.cons_append]
  have hw3 : wf (cadd (cadd (cadd σ (p + 3) ((σ.1 (p + 5)).length)) (p + 5) (((cadd σ (p + 3) ((σ.1 (p + 5)).length)).1 (p + 7)).length)) (p + 7) (((cadd (cadd σ (p + 3) ((σ.1 (p + 5)).length)) (p + 5) (((cadd σ (p + 3) ((σ.1 (p + 5)).length)).1 (p + 7)).length)).1 (p + 9)).length)) := wf_add hw2 (by omega)
  refine C_vret dX2_finish_42 rfl ⟨rfl, ?_⟩
  rw [c_finish]
theorem w_finish {σ : cS} {p : Nat} (hw : wf σ) (hp : kd p = 2) : wf (c_finish σ p) := by
  unfold c_finish
  have r_8 := hw.len (kP5 hp)
  have hw1 : wf (cadd σ (p + 3) ((σ.1 (p + 5)).length)) := wf_add hw (by omega)
  have r_22 := hw1.len (kP7 hp)
  have hw2 : wf (cadd (cadd σ (p + 3) ((σ.1 (p + 5)).length)) (p + 5) (((cadd σ (p + 3) ((σ.1 (p + 5)).length)).1 (p + 7)).length)) := wf_add hw1 (by omega)
  have r_36 := hw2.len (kP9 hp)
  have hw3 : wf (cadd (cadd (cadd σ (p + 3) ((σ.1 (p + 5)).length)) (p + 5) (((cadd σ (p + 3) ((σ.1 (p + 5)).length)).1 (p + 7)).length)) (p + 7) (((cadd (cadd σ (p + 3) ((σ.1 (p + 5)).length)) (p + 5) (((cadd σ (p + 3) ((σ.1 (p + 5)).length)).1 (p + 7)).length)).1 (p + 9)).length)) := wf_add hw2 (by omega)
  exact hw3
theorem i_finish {σ : cS} {p : Nat} : (c_finish σ p).2 = σ.2 := by
  unfold c_finish
  (repeat' split) <;> simp [cadd, cput, cemp, i_addCharacter, i_addComponent, i_addElement, i_addSegment, i_pempty]
