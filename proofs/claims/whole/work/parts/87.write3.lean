/-! the report -/
section RP
variable {σb : cS} {μb : mS} {q e : Nat} {N l : Int} {σ : cS} {μ : mS}
theorem line_v (h : PP σ μ σb μb q l) (he : 12 ≤ e) (hp : PartR σb μb e N) {v c u : Int} (hv0 : 0 ≤ v) (hv1 : v < 16777216) (hc : cOK μb c) (hu0 : 0 ≤ u) (hu1 : u ≤ 9) (hl : l + 6 + 2 * c_msizeOf μb c ≤ capq q) : ∃ l', PP (c_putVerdict σ q v (e + 1) c u) (c_mwriteNumber (c_mwrite (c_mwriteComponent (c_mwrite (c_mwriteTag μ v) 43) c) 43) u) σb μb q l' ∧ l' ≤ l + 6 + 2 * c_msizeOf μb c := by
  have sr := size_r hp hc
  unfold c_putVerdict
  obtain ⟨l1, p1, p2, p3⟩ := ((h.tag hv0 hv1 (by omega)).w 43 (by omega)).comp he hp hc (by omega)
  have p4 := (p1.w 43 (by omega)).num hu0 (by omega) (by rw [if_pos (by omega)]; omega)
  rw [if_pos (by omega)] at p4
  exact ⟨_, p4, by omega⟩
theorem line_a (h : PP σ μ σb μb q l) (he : 12 ≤ e) (hp : PartR σb μb e N) {v c u : Int} (hv0 : 0 ≤ v) (hv1 : v < 16777216) (hc : cOK μb c) (hu0 : 0 ≤ u) (hu1 : u ≤ 9) (hl : l + 7 + 2 * c_msizeOf μb c ≤ capq q) : ∃ l', PP (cadd (c_putVerdict σ q v (e + 1) c u) (q + 1) 39) (c_mwriteLine μ v c u (-1)) σb μb q l' ∧ l' ≤ l + 7 + 2 * c_msizeOf μb c := by
  obtain ⟨l1, p1, p2⟩ := line_v h he hp hv0 hv1 hc hu0 hu1 (by omega)
  unfold c_mwriteLine
  rw [if_pos (by decide)]
  exact ⟨_, p1.w 39 (by omega), by omega⟩
theorem line_b (h : PP σ μ σb μb q l) (he : 12 ≤ e) (hp : PartR σb μb e N) {v c u w : Int} (hv0 : 0 ≤ v) (hv1 : v < 16777216) (hc : cOK μb c) (hu0 : 0 ≤ u) (hu1 : u ≤ 9) (hw0 : 0 ≤ w) (hw1 : w ≤ 99) (hl : l + 10 + 2 * c_msizeOf μb c ≤ capq q) : ∃ l', PP (cadd (c_putNumber (cadd (c_putVerdict σ q v (e + 1) c u) (q + 1) 43) q w) (q + 1) 39) (c_mwriteLine μ v c u w) σb μb q l' ∧ l' ≤ l + 10 + 2 * c_msizeOf μb c := by
  obtain ⟨l1, p1, p2⟩ := line_v h he hp hv0 hv1 hc hu0 hu1 (by omega)
  unfold c_mwriteLine
  rw [if_neg (by omega)]
  have n1 := (p1.w 43 (by omega)).num hw0 hw1 (by split <;> omega)
  have sp : (if w < 10 then (1 : Int) else 2) ≤ 2 := by split <;> omega
  exact ⟨_, n1.w 39 (by omega), by omega⟩
/-- characters before a segment, twice -/
def PSI (μb : mS) (s : Int) : Int := 2 * mat (μb.2 30) (mat (μb.2 28) (mat (μb.2 26) s))
theorem PSI_mo (hp : PartR σb μb e N) {s t : Int} (h0 : 0 ≤ s) (h1 : s ≤ t) (h2 : t ≤ μb.1 24) : PSI μb s ≤ PSI μb t ∧ 0 ≤ PSI μb s ∧ PSI μb t ≤ 2 * N := by
  have a := mono_le2 (f := mat (μb.2 26)) (n := μb.1 24) hp.2.2.2.2.2.2.2.2.1.2.2 h0 h1 h2
  have e1 := hp.2.2.2.2.2.e (s := s) h0 (by omega)
  have e2 := hp.2.2.2.2.2.e (s := t) (by omega) h2
  have b := mono_le2 (f := mat (μb.2 28)) (n := μb.1 27) (fun s u v => Int.le_of_lt (hp.2.2.2.2.2.2.2.2.2.1.2.2 s u v)) e1.1 a e2.2
  have k1 := hp.2.2.2.2.2.c (s := mat (μb.2 26) s) e1.1 e1.2
  have k2 := hp.2.2.2.2.2.c (s := mat (μb.2 26) t) e2.1 e2.2
  have c := mono_le2 (f := mat (μb.2 30)) (n := μb.1 29) hp.2.2.2.2.2.2.2.2.2.2.2.2 k1.1 b k2.2
  have z1 := hp.2.2.2.2.2.h (s := mat (μb.2 28) (mat (μb.2 26) s)) k1.1 k1.2
  have z2 := hp.2.2.2.2.2.h (s := mat (μb.2 28) (mat (μb.2 26) t)) k2.1 k2.2
  unfold PSI; omega
theorem ref_sz (hp : PartR σb μb e N) {s u : Int} (h0 : 0 ≤ s) (h1 : s < μb.1 24) (hu : 0 ≤ u) : 2 * c_msizeOf μb (c_mcomponent μb s u) ≤ PSI μb (s + 1) - PSI μb s := by
  have pm := (PSI_mo hp h0 (show s ≤ s + 1 by omega) (by omega)).1
  unfold c_mcomponent
  by_cases c : mat (μb.2 26) (s + 1) ≤ mat (μb.2 26) s + u
  · rw [if_pos c]; unfold c_msizeOf; rw [if_neg (by decide)]; omega
  · rw [if_neg c]
    have e1 := hp.2.2.2.2.2.e (s := s) h0 (by omega)
    have e2 := hp.2.2.2.2.2.e (s := s + 1) (by omega) (by omega)
    have mo28 : ∀ s, 0 ≤ s → s < μb.1 27 → mat (μb.2 28) s ≤ mat (μb.2 28) (s + 1) := fun s u v => Int.le_of_lt (hp.2.2.2.2.2.2.2.2.2.1.2.2 s u v)
    have k0 := hp.2.2.2.2.2.c (s := mat (μb.2 26) s) e1.1 e1.2
    have k1 := hp.2.2.2.2.2.c (s := mat (μb.2 26) s + u) (by omega) (by omega)
    have k2 := hp.2.2.2.2.2.c (s := mat (μb.2 26) (s + 1)) e2.1 e2.2
    have a := mono_le2 (f := mat (μb.2 28)) (n := μb.1 27) (s := mat (μb.2 26) s) (t := mat (μb.2 26) s + u) mo28 e1.1 (by omega) (by omega)
    have st := hp.2.2.2.2.2.2.2.2.2.1.2.2 (mat (μb.2 26) s + u) (by omega) (by omega)
    have b := mono_le2 (f := mat (μb.2 28)) (n := μb.1 27) (s := mat (μb.2 26) s + u + 1) (t := mat (μb.2 26) (s + 1)) mo28 (by omega) (by omega) e2.2
    have c1 := mono_le2 (f := mat (μb.2 30)) (n := μb.1 29) (s := mat (μb.2 28) (mat (μb.2 26) s)) (t := mat (μb.2 28) (mat (μb.2 26) s + u)) hp.2.2.2.2.2.2.2.2.2.2.2.2 k0.1 a k1.2
    have c2 := mono_le2 (f := mat (μb.2 30)) (n := μb.1 29) (s := mat (μb.2 28) (mat (μb.2 26) s + u) + 1) (t := mat (μb.2 28) (mat (μb.2 26) (s + 1))) hp.2.2.2.2.2.2.2.2.2.2.2.2 (by omega) (by omega) k2.2
    unfold c_msizeOf PSI
    rw [if_pos k1.1]; omega
/-- what the report is written of -/
def RB (σb : cS) (μb : mS) (e : Nat) (M gg : Int) : Prop :=
  rowIs (σb.1 (e + 12)) (μb.2 34) 0 M ∧ rowIs (σb.1 (e + 16)) (μb.2 36) 0 M ∧ rowIs (σb.1 (e + 18)) (μb.2 37) 0 M ∧ rowIs (σb.1 (e + 20)) (μb.2 38) 0 M ∧ rowIs (σb.1 (e + 22)) (μb.2 40) 0 gg ∧ rowIs (σb.1 (e + 28)) (μb.2 42) 0 gg ∧
  (μb.1 33 = M ∧ 0 ≤ M ∧ M ≤ 19 ∧ 0 ≤ gg ∧ gg ≤ 9) ∧ (∀ k, 0 ≤ k → k < M → mat (μb.2 37) k = 0 ∨ 0 ≤ mat (μb.2 38) k) ∧
  (∀ i, 0 ≤ i → i < M → 1 ≤ mat (μb.2 34) i ∧ mat (μb.2 34) i < mat (μb.2 35) i ∧ mat (μb.2 35) i < μb.1 24) ∧
  (∀ i, 0 ≤ i → i + 1 < M → mat (μb.2 35) i < mat (μb.2 34) (i + 1) ∧ mat (μb.2 36) i ≤ mat (μb.2 36) (i + 1)) ∧
  (∀ i, 0 ≤ i → i < M → -1 ≤ mat (μb.2 36) i ∧ mat (μb.2 36) i < gg ∧ (0 ≤ mat (μb.2 36) i → 1 ≤ mat (μb.2 40) (mat (μb.2 36) i) ∧ mat (μb.2 40) (mat (μb.2 36) i) < mat (μb.2 34) i)) ∧
  (∀ i, 0 ≤ i → i + 1 < M → mat (μb.2 36) i < mat (μb.2 36) (i + 1) → mat (μb.2 35) i < mat (μb.2 40) (mat (μb.2 36) (i + 1)))
/-- the class looks its messages up as the model does -/
theorem PP.look (h : PP σ μ σb μb 9 l) (he : 12 ≤ e) (hp : PartR σb μb e N) {M gg : Int} (rb : RB σb μb e M gg) {i : Int} (h0 : 0 ≤ i) (h1 : i < M) :
    c_messageCount σ e = M ∧ c_ofMessage σ e i 3 = mat (μb.2 36) i ∧ c_ofMessage σ e i 0 = mat (μb.2 37) i ∧ c_ofMessage σ e i 1 = mat (μb.2 38) i ∧ c_referenceOfMessage σ e i = c_mcomponent μb (mat (μb.2 34) i) 0 ∧ cOK μb (c_mcomponent μb (mat (μb.2 34) i) 0) := by
  obtain ⟨b1, b2, b3, b4, b5, b6, b7, b8, b9, b10, b11, b12⟩ := rb
  have o := b9 i h0 h1
  have pr := h.2.2.1
  have l12 : ((σ.1 (e + 12)).length : Int) = M := by rw [pr _ (by omega)]; exact b1.1
  have P := h.part he hp
  have a24 : μ.1 24 = μb.1 24 := h.2.2.2.2.1 24 (by decide)
  have P2 : PartR σ μb e N := PartR_cl hp (fun r a b => pr r (by omega))
  unfold c_ofMessage c_messageCount c_referenceOfMessage
  rw [if_neg (show ¬ i < 0 by omega), if_pos (show i < ((σ.1 (e + 12)).length : Int) by omega)]
  have jc := J_comp P2 (s := mat (μb.2 34) i) (u := 0) (by omega) (by omega) (by omega)
  have r12 : rat (σ.1 (e + 12)) i = mat (μb.2 34) i := by rw [pr _ (by omega)]; exact b1.in h0 h1
  have r16 : rat (σ.1 (e + 16)) i = mat (μb.2 36) i := by rw [pr _ (by omega)]; exact b2.in h0 h1
  have r18 : rat (σ.1 (e + 18)) i = mat (μb.2 37) i := by rw [pr _ (by omega)]; exact b3.in h0 h1
  have r20 : rat (σ.1 (e + 20)) i = mat (μb.2 38) i := by rw [pr _ (by omega)]; exact b4.in h0 h1
  refine ⟨l12, ?_, ?_, ?_, ?_, jc.2⟩
  · rw [if_neg (by decide), if_neg (by decide), if_neg (by decide), if_pos rfl]; exact r16
  · rw [if_neg (show ¬ i < 0 by omega), if_pos (show i < ((σ.1 (e + 12)).length : Int) by omega), if_pos rfl]; exact r18
  · rw [if_neg (show ¬ i < 0 by omega), if_pos (show i < ((σ.1 (e + 12)).length : Int) by omega), if_neg (by decide), if_pos rfl]; exact r20
  · rw [r12]; exact jc.1
theorem PP.lookg (h : PP σ μ σb μb 9 l) (he : 12 ≤ e) (hp : PartR σb μb e N) {M gg : Int} (rb : RB σb μb e M gg) {g : Int} (h0 : 0 ≤ g) (h1 : g < gg) (hs : 0 ≤ mat (μb.2 40) g) (hs2 : mat (μb.2 40) g < μb.1 24) :
    c_referenceOfGroup σ e g = c_mcomponent μb (mat (μb.2 40) g) 0 ∧ c_codeOfGroup σ e g = mat (μb.2 42) g ∧ cOK μb (c_mcomponent μb (mat (μb.2 40) g) 0) := by
  obtain ⟨b1, b2, b3, b4, b5, b6, b7, b8, b9, b10, b11, b12⟩ := rb
  have pr := h.2.2.1
  have P2 : PartR σ μb e N := PartR_cl hp (fun r a b => pr r (by omega))
  have jc := J_comp P2 (s := mat (μb.2 40) g) (u := 0) hs hs2 (by omega)
  unfold c_referenceOfGroup c_codeOfGroup
  have r22 : rat (σ.1 (e + 22)) g = mat (μb.2 40) g := by rw [pr _ (by omega)]; exact b5.in h0 h1
  have r28 : rat (σ.1 (e + 28)) g = mat (μb.2 42) g := by rw [pr _ (by omega)]; exact b6.in h0 h1
  rw [r22]
  exact ⟨jc.1, r28, jc.2⟩
theorem mcomp_c (h : PP σ μ σb μb q l) {s u : Int} : c_mcomponent μ s u = c_mcomponent μb s u := by
  unfold c_mcomponent; rw [h.2.2.2.2.2 26 (by decide), h.2.2.2.2.2 28 (by decide)]
theorem rep_w (he : 12 ≤ e) (hp : PartR σb μb e N) (hw : wfm μb) {M gg : Int} (rb : RB σb μb e M gg) (fu : Nat) : ∀ (g i l b : Int) (σ : cS) (μ : mS) (fu2 : Nat), PP σ μ σb μb 9 l → 0 ≤ i → i ≤ M → -1 ≤ g → g < gg ∨ g = -1 → (i < M → g ≤ mat (μb.2 36) i ∧ b ≤ mat (μb.2 34) i ∧ (g < mat (μb.2 36) i → b ≤ mat (μb.2 40) (mat (μb.2 36) i))) → 1 ≤ b → b ≤ μb.1 24 → l ≤ 7 + 7 * (g + 1) + 10 * i + PSI μb b → M - i < (fu : Int) → M - i < (fu2 : Int) →
    ∃ l', PP (c_writeReportL 9 e fu g i σ) (c_mwriteReportL fu2 g i μ) σb μb 9 l' ∧ l' ≤ 1060 := by
  have rb0 := rb
  obtain ⟨b1, b2, b3, b4, b5, b6, ⟨b7, b7a, b7b, b7c, b7d⟩, b8, b9, b10, b11, b12⟩ := rb
  have h4 := hp.2.2.2.2.2.2.1
  have hN := hp.2.2.2.2.2.1
  have cq : capq 9 = 1060 := by decide
  induction fu with
  | zero => intro g i l b σ μ fu2 _ _ _ _ _ _ _ _ _ h; omega
  | succ fu ih =>
    intro g i l b σ μ fu2 h h0 h1 hg0 hg1 hn hb0 hb1 hl h2 h3
    cases fu2 with
    | zero => omega
    | succ fu2 =>
      rw [c_writeReportL, c_mwriteReportL]
      have a33 : μ.1 33 = M := (h.2.2.2.2.1 33 (by decide)).trans b7
      by_cases c : M ≤ i
      · have mc : c_messageCount σ e = M := by
          show ((σ.1 (e + 12)).length : Int) = M
          rw [h.2.2.1 _ (by omega)]; exact b1.1
        rw [mc, a33, if_pos c, if_pos c]
        have ps := PSI_mo hp (s := b) (t := b) (by omega) (Int.le_refl _) hb1
        exact ⟨l, h, by omega⟩
      · have lk := h.look he hp rb0 h0 (show i < M by omega)
        have o9 := b9 i h0 (by omega)
        have o11 := b11 i h0 (by omega)
        have c37 := hw.a37 i
        have c38 := hw.a38 i
        obtain ⟨n1, n2, n3⟩ := hn (by omega)
        have ps1 := PSI_mo hp (s := b) (t := mat (μb.2 34) i) (by omega) n2 (by omega)
        have ps2 := PSI_mo hp (s := mat (μb.2 34) i + 1) (t := mat (μb.2 34) i + 1) (by omega) (Int.le_refl _) (by omega)
        have rs := ref_sz hp (s := mat (μb.2 34) i) (u := 0) (by omega) (by omega) (by omega)
        have a36 : μ.2 36 = μb.2 36 := h.2.2.2.2.2 36 (by decide)
        have a37 : μ.2 37 = μb.2 37 := h.2.2.2.2.2 37 (by decide)
        have a38 : μ.2 38 = μb.2 38 := h.2.2.2.2.2 38 (by decide)
        have a34 : μ.2 34 = μb.2 34 := h.2.2.2.2.2 34 (by decide)
        have a40 : μ.2 40 = μb.2 40 := h.2.2.2.2.2 40 (by decide)
        have a42 : μ.2 42 = μb.2 42 := h.2.2.2.2.2 42 (by decide)
        -- the next message
        have nx : i + 1 < M → mat (μb.2 36) i ≤ mat (μb.2 36) (i + 1) ∧ mat (μb.2 34) i + 1 ≤ mat (μb.2 34) (i + 1) ∧ (mat (μb.2 36) i < mat (μb.2 36) (i + 1) → mat (μb.2 34) i + 1 ≤ mat (μb.2 40) (mat (μb.2 36) (i + 1))) := fun z => by
          have x := b10 i h0 z
          refine ⟨x.2, by omega, fun y => ?_⟩
          have := b12 i h0 z y
          omega
        rw [lk.1, a33, if_neg c, if_neg c, lk.2.1, a36, a37, a38, a34, a40, a42]
        by_cases d : mat (μb.2 36) i ≤ g
        · have eg : mat (μb.2 36) i = g := by omega
          rw [if_pos eg, if_pos d, lk.2.2.1, lk.2.2.2.2.1, mcomp_c h]
          rw [eg] at nx
          by_cases f : mat (μb.2 37) i = 0
          · rw [if_pos f, if_pos (by omega)]
            obtain ⟨l1, p1, p2⟩ := line_a (v := 5587789) (u := mat (μb.2 37) i) h he hp (by omega) (by omega) lk.2.2.2.2.2 (by omega) (by omega) (by omega)
            exact ih g (i + 1) l1 (mat (μb.2 34) i + 1) _ _ fu2 p1 (by omega) (by omega) hg0 hg1 nx (by omega) (by omega) (by omega) (by omega) (by omega)
          · rw [if_neg f, if_neg (by omega)]
            have lk2 : c_ofMessage (cadd (c_putVerdict σ 9 5587789 (e + 1) (c_mcomponent μb (mat (μb.2 34) i) 0) (mat (μb.2 37) i)) (9 + 1) 43) e i 1 = mat (μb.2 38) i := by
              obtain ⟨l1, p1, p2⟩ := line_v (v := 5587789) (u := mat (μb.2 37) i) h he hp (by omega) (by omega) lk.2.2.2.2.2 (by omega) (by omega) (by omega)
              exact ((p1.w 43 (by omega)).look he hp rb0 h0 (by omega)).2.2.2.1
            rw [lk2]
            have pl : 0 ≤ mat (μb.2 38) i := by rcases b8 i h0 (by omega) with z | z; exact absurd z f; exact z
            obtain ⟨l1, p1, p2⟩ := line_b (v := 5587789) (u := mat (μb.2 37) i) (w := mat (μb.2 38) i) h he hp (by omega) (by omega) lk.2.2.2.2.2 (by omega) (by omega) pl (by omega) (by omega)
            exact ih g (i + 1) l1 (mat (μb.2 34) i + 1) _ _ fu2 p1 (by omega) (by omega) hg0 hg1 nx (by omega) (by omega) (by omega) (by omega) (by omega)
        · rw [if_neg (show ¬ mat (μb.2 36) i = g by omega), if_neg d]
          have og := o11.2.2 (by omega)
          have nb := n3 (by omega)
          have ps3 := PSI_mo hp (s := b) (t := mat (μb.2 40) (mat (μb.2 36) i)) (by omega) nb (by omega)
          have ps4 := PSI_mo hp (s := mat (μb.2 40) (mat (μb.2 36) i) + 1) (t := mat (μb.2 34) i) (by omega) (by omega) (by omega)
          have rs2 := ref_sz hp (s := mat (μb.2 40) (mat (μb.2 36) i)) (u := 0) (by omega) (by omega) (by omega)
          have c42 := hw.a42 (mat (μb.2 36) i)
          have lg := h.lookg he hp rb0 (g := mat (μb.2 36) i) (by omega) (by omega) (by omega) (by omega)
          rw [lg.1, lg.2.1, mcomp_c h]
          obtain ⟨l1, p1, p2⟩ := line_a (v := 5587782) (u := mat (μb.2 42) (mat (μb.2 36) i)) h he hp (by omega) (by omega) lg.2.2 (by omega) (by omega) (by omega)
          have lk3 := p1.look he hp rb0 h0 (show i < M by omega)
          rw [lk3.2.2.1, lk3.2.2.2.2.1, mcomp_c p1]
          by_cases f : mat (μb.2 37) i = 0
          · rw [if_pos f, if_pos (by omega)]
            obtain ⟨l2, p3, p4⟩ := line_a (v := 5587789) (u := mat (μb.2 37) i) p1 he hp (by omega) (by omega) lk.2.2.2.2.2 (by omega) (by omega) (by omega)
            exact ih (mat (μb.2 36) i) (i + 1) l2 (mat (μb.2 34) i + 1) _ _ fu2 p3 (by omega) (by omega) (by omega) (Or.inl o11.2.1) nx (by omega) (by omega) (by omega) (by omega) (by omega)
          · rw [if_neg f, if_neg (by omega)]
            have pl : 0 ≤ mat (μb.2 38) i := by rcases b8 i h0 (by omega) with z | z; exact absurd z f; exact z
            have lk2 : c_ofMessage (cadd (c_putVerdict (cadd (c_putVerdict σ 9 5587782 (e + 1) (c_mcomponent μb (mat (μb.2 40) (mat (μb.2 36) i)) 0) (mat (μb.2 42) (mat (μb.2 36) i))) (9 + 1) 39) 9 5587789 (e + 1) (c_mcomponent μb (mat (μb.2 34) i) 0) (mat (μb.2 37) i)) (9 + 1) 43) e i 1 = mat (μb.2 38) i := by
              obtain ⟨l1, p1, p2⟩ := line_v (v := 5587789) (u := mat (μb.2 37) i) p1 he hp (by omega) (by omega) lk.2.2.2.2.2 (by omega) (by omega) (by omega)
              exact ((p1.w 43 (by omega)).look he hp rb0 h0 (by omega)).2.2.2.1
            rw [lk2]
            obtain ⟨l2, p3, p4⟩ := line_b (v := 5587789) (u := mat (μb.2 37) i) (w := mat (μb.2 38) i) p1 he hp (by omega) (by omega) lk.2.2.2.2.2 (by omega) (by omega) pl (by omega) (by omega)
            exact ih (mat (μb.2 36) i) (i + 1) l2 (mat (μb.2 34) i + 1) _ _ fu2 p3 (by omega) (by omega) (by omega) (Or.inl o11.2.1) nx (by omega) (by omega) (by omega) (by omega) (by omega)
end RP
