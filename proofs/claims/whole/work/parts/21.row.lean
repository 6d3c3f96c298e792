/-- the rows' numbers are ints, the rows are as long as they may be -/
abbrev sm (x : Int) : Prop := -3000 ≤ x ∧ x < 100000000
def wf (σ : cS) : Prop := (∀ r x, x ∈ σ.1 r → sm x) ∧ (∀ r, kd r = 3 → (σ.1 r).length ≤ cap r) ∧ (∀ p k, sm (σ.2.1 p k)) ∧ (σ.2.2 = 12 ∨ σ.2.2 = 42)
theorem wf.ra {σ : cS} (hw : wf σ) (r : Nat) (i : Int) : sm (rat (σ.1 r) i) := by
  unfold rat
  split
  · rw [List.getD_eq_getElem?_getD]
    cases hx : (σ.1 r)[i.toNat]? with
    | none => exact ⟨by decide, by decide⟩
    | some x => exact hw.1 r x (List.mem_of_getElem? hx)
  · exact ⟨by decide, by decide⟩
theorem wf.len {σ : cS} (hw : wf σ) {r : Nat} (hr : kd r = 3) : ((σ.1 r).length : Int) ≤ 2000 := by
  have h1 := hw.2.1 r hr
  have h2 := (kd_row hr).2.2
  omega
def cadd (σ : cS) (r : Nat) (v : Int) : cS := (upR σ.1 r (if (σ.1 r).length < cap r then σ.1 r ++ [v] else σ.1 r), σ.2)
def cput (σ : cS) (r : Nat) (i v : Int) : cS := (upR σ.1 r (if 0 ≤ i then (σ.1 r).set i.toNat v else σ.1 r), σ.2)
def cemp (σ : cS) (r : Nat) : cS := (upR σ.1 r [], σ.2)
theorem upR_self {R : Nat → List Int} {r : Nat} : upR R r (R r) = R := by
  funext k; unfold upR; split
  · rename_i h; rw [h]
  · rfl
section ROW
variable {l : Launch} {G : jG} {d : Nat} {σ : cS} {r : Nat}
theorem row_size (hw : wf σ) (hr : kd r = 3) : CJ jCls jown l G (Yx mX3_size) d 0 0 0 [some (.ref r)] [] σ (det (some (vi (σ.1 r).length)) σ) := by
  refine C_aload_n dX3_size_0 rfl ?_
  refine C_get dX3_size_1 f_X3_9 (fun h hc => ⟨_, (hc.1 r hr).1, rfl⟩) ?_
  exact C_iret dX3_size_4 rfl ⟨rfl, rfl⟩
theorem row_at (hw : wf σ) (hr : kd r = 3) {i : Int} (hi : rg i) : CJ jCls jown l G (Yx mX3_at) d 0 0 0 [some (.ref r), some (vi i)] [] σ (det (some (vi (rat (σ.1 r) i))) σ) := by
  have hlen := hw.len hr
  have hcap := (kd_row hr).2.2
  have hle := hw.2.1 r hr
  refine C_iload_n dX3_at_0 rfl ?_
  refine C_if_lt (tgt := 30) dX3_at_1 (by decide) (by omega) (fun c1 => ?_) (fun c1 => ?_)
  · refine C_iconst dX3_at_30 ?_
    refine C_iret dX3_at_31 rfl ⟨?_, rfl⟩
    rw [rat, if_neg (by omega)]
  refine C_iload_n dX3_at_4 rfl ?_
  refine C_aload_n dX3_at_5 rfl ?_
  refine C_get dX3_at_6 f_X3_9 (fun h hc => ⟨_, (hc.1 r hr).1, rfl⟩) ?_
  refine C_icmp_ge (tgt := 30) dX3_at_9 (by decide) (by omega) (by omega) (fun c2 => ?_) (fun c2 => ?_)
  · refine C_iconst dX3_at_30 ?_
    refine C_iret dX3_at_31 rfl ⟨?_, rfl⟩
    rw [rat, if_pos c1, List.getD_eq_getElem?_getD, List.getElem?_eq_none (by omega)]
    rfl
  refine C_iload_n dX3_at_12 rfl ?_
  refine C_aload_n dX3_at_13 rfl ?_
  refine C_get dX3_at_14 f_X3_21 (fun h hc => ⟨_, (hc.1 r hr).1, rfl⟩) ?_
  refine C_alen (ci := 10) (m := cap r) dX3_at_17 (by decide) (fun h hc => by obtain ⟨_, ys, e1, e2⟩ := hc.1 r hr; exact ⟨_, e1, by simp; exact e2⟩) ?_
  refine C_icmp_ge (tgt := 30) dX3_at_18 (by decide) (by omega) (by omega) (fun c3 => ?_) (fun c3 => ?_)
  · exact absurd c3 (by omega)
  refine C_aload_n dX3_at_21 rfl ?_
  refine C_get dX3_at_22 f_X3_21 (fun h hc => ⟨_, (hc.1 r hr).1, rfl⟩) ?_
  refine C_iload_n dX3_at_25 rfl ?_
  refine C_iald (v := vi (rat (σ.1 r) i)) dX3_at_26 c1 (by omega) (fun h hc => by
    obtain ⟨_, ys, e1, e2⟩ := hc.1 r hr
    refine ⟨_, e1, ?_⟩
    have hlt : i.toNat < (σ.1 r).length := by omega
    rw [rat, if_pos c1, List.getElem?_map, List.getElem?_append_left hlt, List.getElem?_eq_getElem hlt]
    simp [hlt]) ?_
  refine C_goto (tgt := 31) dX3_at_27 (by decide) ?_
  exact C_iret dX3_at_31 rfl ⟨rfl, rfl⟩
theorem row_empty (hw : wf σ) (hr : kd r = 3) : CJ jCls jown l G (Yx mX3_empty) d 0 0 0 [some (.ref r)] [] σ (det none (cemp σ r)) := by
  have hlt := kd_lt hr (by decide)
  refine C_aload_n dX3_empty_0 rfl ?_
  refine C_iconst dX3_empty_1 ?_
  refine C_put (σ' := cemp σ r) dX3_empty_2 f_X3_9 jfit_i ⟨by rcases Nat.eq_zero_or_pos r with q | q; (rw [q] at hr; exact absurd hr (by decide)); exact q, hlt⟩ (fun h hc => ?_) ?_
  · obtain ⟨e0, ys, e1, e2⟩ := hc.1 r hr
    refine ⟨_, e0, (by show 1 < 2; decide), ?_⟩
    refine hc.row hr ⟨by rw [jup_same]; rfl, (σ.1 r) ++ ys, by rw [jup_ne (by omega)]; exact e1, ?_⟩ (fun k h1 h2 => jup_ne h1)
    simp; exact e2
  · exact C_vret dX3_empty_5 rfl ⟨rfl, rfl⟩
theorem row_pos {r : Nat} (hr : kd r = 3) : jown r ∧ jown (r + 1) := by
  have hlt := kd_lt hr (by decide)
  have hlt2 := kd_lt (kd_row hr).1 (by decide)
  have h0 : 1 ≤ r := by
    rcases Nat.eq_zero_or_pos r with q | q
    · rw [q] at hr; exact absurd hr (by decide)
    · exact q
  exact ⟨⟨h0, hlt⟩, ⟨by omega, hlt2⟩⟩
theorem row_add (hw : wf σ) (hr : kd r = 3) {v : Int} (hv : rg v) : CJ jCls jown l G (Yx mX3_add) d 0 0 0 [some (.ref r), some (vi v)] [] σ (det none (cadd σ r v)) := by
  have hlen := hw.len hr
  have hcap := (kd_row hr).2.2
  have hle := hw.2.1 r hr
  refine C_aload_n dX3_add_0 rfl ?_
  refine C_get dX3_add_1 f_X3_9 (fun h hc => ⟨_, (hc.1 r hr).1, rfl⟩) ?_
  refine C_if_lt (tgt := 39) dX3_add_4 (by decide) (by omega) (fun c1 => absurd c1 (by omega)) (fun c1 => ?_)
  refine C_aload_n dX3_add_7 rfl ?_
  refine C_get dX3_add_8 f_X3_9 (fun h hc => ⟨_, (hc.1 r hr).1, rfl⟩) ?_
  refine C_aload_n dX3_add_11 rfl ?_
  refine C_get dX3_add_12 f_X3_21 (fun h hc => ⟨_, (hc.1 r hr).1, rfl⟩) ?_
  refine C_alen (ci := 10) (m := cap r) dX3_add_15 (by decide) (fun h hc => by obtain ⟨_, ys, e1, e2⟩ := hc.1 r hr; exact ⟨_, e1, by simp; exact e2⟩) ?_
  refine C_icmp_ge (tgt := 39) dX3_add_16 (by decide) (by omega) (by omega) (fun c2 => ?_) (fun c2 => ?_)
  · refine C_vret dX3_add_39 rfl ⟨rfl, ?_⟩
    rw [cadd, if_neg (by omega), upR_self]
  refine C_aload_n dX3_add_19 rfl ?_
  refine C_get dX3_add_20 f_X3_21 (fun h hc => ⟨_, (hc.1 r hr).1, rfl⟩) ?_
  refine C_aload_n dX3_add_23 rfl ?_
  refine C_get dX3_add_24 f_X3_9 (fun h hc => ⟨_, (hc.1 r hr).1, rfl⟩) ?_
  refine C_iload_n dX3_add_27 rfl ?_
  intro n h0 h hc hf
  obtain ⟨e0, ys, e1, e2⟩ := hc.1 r hr
  cases ys with
  | nil => simp at e2; omega
  | cons y ys =>
    have hi0 : (0 : Int) ≤ (σ.1 r).length := by omega
    refine J_iast dX3_add_28 e1 (iz_nn (by omega) (by omega)) (by rw [iz_clamp (by omega) (by omega)]; simp) ?_
    rw [iz_clamp (by omega) (by omega)]
    have e3 : List.set (List.map vi (σ.1 r ++ y :: ys)) (((σ.1 r).length : Int).toNat) (vi v) = List.map vi ((σ.1 r ++ [v]) ++ ys) := by
      rw [Int.toNat_natCast, List.map_append, List.set_append_right _ _ (by simp)]
      simp
    rw [e3]
    refine J_aload_n dX3_add_29 rfl ?_
    refine J_dup dX3_add_30 rfl ?_
    refine J_get dX3_add_31 f_X3_9 ((jup_ne (by omega)).trans e0) rfl ?_
    refine J_iconst dX3_add_34 rfl ?_
    refine J_iadd dX3_add_35 ?_
    rw [iz_add]
    refine J_put dX3_add_36 f_X3_9 ((jup_ne (by omega)).trans e0) (by show 1 < 2; decide) jfit_i ?_
    refine J_vret dX3_add_39 rfl ⟨rfl, fun k hk => ?_, _, hc.row hr (xs := σ.1 r ++ [v]) ⟨?_, ys, ?_, ?_⟩ (fun k h1 h2 => ?_), rfl, ?_⟩
    · have hp := row_pos hr
      rw [jup_ne (fun e => hk (by rw [e]; exact hp.1)), jup_ne (fun e => hk (by rw [e]; exact hp.2))]; exact hf k hk
    · rw [jup_same]; simp
    · rw [jup_ne (by omega), jup_same]
    · simp at e2 ⊢; omega
    · rw [jup_ne h1, jup_ne h2]
    · rw [cadd, if_pos (by omega)]
theorem row_put (hw : wf σ) (hr : kd r = 3) {i v : Int} (hi : rg i) (hv : rg v) : CJ jCls jown l G (Yx mX3_put) d 0 0 0 [some (.ref r), some (vi i), some (vi v)] [] σ (det none (cput σ r i v)) := by
  have hlen := hw.len hr
  have hcap := (kd_row hr).2.2
  have hle := hw.2.1 r hr
  refine C_iload_n dX3_put_0 rfl ?_
  refine C_if_lt (tgt := 28) dX3_put_1 (by decide) (by omega) (fun c1 => ?_) (fun c1 => ?_)
  · refine C_vret dX3_put_28 rfl ⟨rfl, ?_⟩
    rw [cput, if_neg (by omega), upR_self]
  refine C_iload_n dX3_put_4 rfl ?_
  refine C_aload_n dX3_put_5 rfl ?_
  refine C_get dX3_put_6 f_X3_9 (fun h hc => ⟨_, (hc.1 r hr).1, rfl⟩) ?_
  refine C_icmp_ge (tgt := 28) dX3_put_9 (by decide) (by omega) (by omega) (fun c2 => ?_) (fun c2 => ?_)
  · refine C_vret dX3_put_28 rfl ⟨rfl, ?_⟩
    rw [cput, if_pos c1, List.set_eq_of_length_le (by omega), upR_self]
  refine C_iload_n dX3_put_12 rfl ?_
  refine C_aload_n dX3_put_13 rfl ?_
  refine C_get dX3_put_14 f_X3_21 (fun h hc => ⟨_, (hc.1 r hr).1, rfl⟩) ?_
  refine C_alen (ci := 10) (m := cap r) dX3_put_17 (by decide) (fun h hc => by obtain ⟨_, ys, e1, e2⟩ := hc.1 r hr; exact ⟨_, e1, by simp; exact e2⟩) ?_
  refine C_icmp_ge (tgt := 28) dX3_put_18 (by decide) (by omega) (by omega) (fun c3 => absurd c3 (by omega)) (fun c3 => ?_)
  refine C_aload_n dX3_put_21 rfl ?_
  refine C_get dX3_put_22 f_X3_21 (fun h hc => ⟨_, (hc.1 r hr).1, rfl⟩) ?_
  refine C_iload_n dX3_put_25 rfl ?_
  refine C_iload_n dX3_put_26 rfl ?_
  refine C_iast (σ' := cput σ r i v) dX3_put_27 c1 (by omega) (row_pos hr).2 (fun h hc => ?_) ?_
  · obtain ⟨e0, ys, e1, e2⟩ := hc.1 r hr
    refine ⟨_, e1, by simp; omega, ?_⟩
    have hx := hc.row hr (h' := jup h (r + 1) (10, List.set (List.map vi (σ.1 r ++ ys)) i.toNat (vi v))) (xs := (σ.1 r).set i.toNat v) ⟨by rw [jup_ne (by omega), List.length_set]; exact e0, ys, by rw [jup_same, ← List.map_set, List.set_append_left _ _ (by omega)], by rw [List.length_set]; exact e2⟩ (fun k h1 h2 => jup_ne h2)
    rw [cput, if_pos c1]; exact hx
  · exact C_vret dX3_put_28 rfl ⟨rfl, rfl⟩
end ROW
