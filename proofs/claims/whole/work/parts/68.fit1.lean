/-! envelopes: the next tag of one -/
def isE (v : Int) : Bool := c_misEnvelope μ0 v
theorem isE_m {ν : mS} {v : Int} : c_misEnvelope ν v = isE v := rfl
theorem isE_c {σ : cS} {v : Int} : c_isEnvelopeTag σ v = isE v := rfl
def nxe (tg : List Int) (n : Int) : Nat → Int → Int
  | 0, k => k
  | fu + 1, k => if n - 1 ≤ k then k else if isE (mat tg k) = true then k else nxe tg n fu (k + 1)
def NX (tg : List Int) (n k : Int) : Int := nxe tg n (n - k).toNat k
theorem nxe_eq {tg : List Int} {n : Int} (fu : Nat) : ∀ k, n - k ≤ (fu : Int) → nxe tg n fu k = NX tg n k := by
  induction fu with
  | zero => intro k h; unfold NX; rw [show (n - k).toNat = 0 by omega]
  | succ fu ih =>
    intro k h
    unfold NX
    by_cases c : n - 1 ≤ k
    · rw [nxe, if_pos c]
      cases hq : (n - k).toNat with
      | zero => rfl
      | succ q => rw [nxe, if_pos c]
    · have e : (n - k).toNat = (n - (k + 1)).toNat + 1 := by omega
      rw [e, nxe, nxe, if_neg c, if_neg c, ih (k + 1) (by omega)]; rfl
theorem NX_step {tg : List Int} {n k : Int} : NX tg n k = if n - 1 ≤ k then k else if isE (mat tg k) = true then k else NX tg n (k + 1) := by
  rw [← nxe_eq (n - k).toNat.succ k (by omega), nxe, nxe_eq _ _ (by omega)]
theorem wrapsA_eq {n gp q : Int} {ν : mS} (fu : Nat) : ∀ k, c_mwrapsA n gp q fu k ν = nxe (ν.2 15) n fu k := by
  induction fu with
  | zero => intro k; rfl
  | succ fu ih => intro k; rw [c_mwrapsA, nxe, isE_m, ih]
theorem NX_r {tg : List Int} {n : Int} (hz : isE (mat tg (n - 1)) = true) (d : Nat) : ∀ k, n - 1 - k = (d : Int) → k ≤ NX tg n k ∧ NX tg n k ≤ n - 1 ∧ isE (mat tg (NX tg n k)) = true := by
  induction d with
  | zero => intro k h; rw [NX_step, if_pos (by omega)]; have : k = n - 1 := by omega
            subst this; exact ⟨Int.le_refl _, Int.le_refl _, hz⟩
  | succ d ih =>
    intro k h
    rw [NX_step, if_neg (by omega)]
    by_cases c : isE (mat tg k) = true
    · rw [if_pos c]; exact ⟨Int.le_refl _, by omega, c⟩
    · rw [if_neg c]
      have q := ih (k + 1) (by omega)
      exact ⟨by omega, q.2.1, q.2.2⟩
theorem NX_r2 {tg : List Int} {n k : Int} (hz : isE (mat tg (n - 1)) = true) (hk : k ≤ n - 1) : k ≤ NX tg n k ∧ NX tg n k ≤ n - 1 ∧ isE (mat tg (NX tg n k)) = true := NX_r hz (n - 1 - k).toNat k (by omega)
theorem cI_cI {σ : cS} {p k : Nat} {a b : Int} : cI (cI σ p k a) p k b = cI σ p k b := by
  unfold cI
  have : upI (upI σ.2.1 p k a) p k b = upI σ.2.1 p k b := by funext q j; unfold upI; split <;> rfl
  rw [this]
theorem cI_self {σ : cS} {p k : Nat} : cI σ p k (σ.2.1 p k) = σ := by
  unfold cI
  have : upI σ.2.1 p k (σ.2.1 p k) = σ.2.1 := by
    funext q j; unfold upI; split
    · rename_i h; rw [h.1, h.2]
    · rfl
  rw [this]
def mAdd (σ : cS) (e : Nat) (f j g : Int) : cS := cI (cadd (cadd (cadd (cadd (cadd σ (e + 12) f) (e + 14) j) (e + 16) g) (e + 18) 0) (e + 20) (-1)) e 11 (j + 1)
/-- a message's segments, up to the next tag of an envelope -/
theorem tm_L {e : Nat} {tg : List Int} {n g f : Int} (hz : isE (mat tg (n - 1)) = true) (hn : n ≤ 40) (fu : Nat) : ∀ (kk k : Int) (σ : cS), σ.2.1 e 11 = k → rowIs (σ.1 (e + 1 + 1)) tg 0 n → 0 ≤ k → k ≤ n - 1 → 0 ≤ kk → kk + (n - 1 - k) < 40 → n - 1 - k < (fu : Int) →
    c_takeMessageL e g fu f kk σ = if mat tg (NX tg n k) = 5590612 then (true, mAdd (cI σ e 11 (NX tg n k)) e f (NX tg n k) g) else (false, cI σ e 11 (NX tg n k)) := by
  induction fu with
  | zero => intro kk k σ _ _ _ _ _ _ h; omega
  | succ fu ih =>
    intro kk k σ hp hr h0 h1 h2 h3 h4
    rw [c_takeMessageL, if_neg (by omega), hp, isE_c]
    have ct : c_tagOf σ (e + 1) k = mat tg k := hr.in h0 (by omega)
    rw [ct]
    by_cases c : isE (mat tg k) = true
    · have ek : NX tg n k = k := by
        rw [NX_step]
        by_cases q : n - 1 ≤ k
        · rw [if_pos q]
        · rw [if_neg q, if_pos c]
      rw [if_pos c, ek]
      have es : cI σ e 11 k = σ := by rw [← hp]; exact cI_self
      rw [es]; rfl
    · have nk : ¬ n - 1 ≤ k := fun q => by
        have : k = n - 1 := by omega
        rw [this] at c; exact c hz
      have ek : NX tg n k = NX tg n (k + 1) := by rw [NX_step, if_neg nk, if_neg c]
      rw [if_neg c, ih (kk + 1) (k + 1) (cI σ e 11 (k + 1)) (by simp [cI, upI]) hr (by omega) (by omega) (by omega) (by omega) (by omega), cI_cI, ← ek]
theorem tm_eq {e : Nat} {tg : List Int} {n g k : Int} {σ : cS} (hz : isE (mat tg (n - 1)) = true) (hn : n ≤ 40) (hp : σ.2.1 e 11 = k) (hr : rowIs (σ.1 (e + 1 + 1)) tg 0 n) (h0 : 1 ≤ k) (h1 : k < n - 1) :
    c_takeMessage σ e g = if mat tg k = 5590600 then (if mat tg (NX tg n (k + 1)) = 5590612 then (true, mAdd (cI σ e 11 (NX tg n (k + 1))) e k (NX tg n (k + 1)) g) else (false, cI σ e 11 (NX tg n (k + 1)))) else (false, σ) := by
  unfold c_takeMessage
  have ct : c_tagOf σ (e + 1) (σ.2.1 e 11) = mat tg k := by rw [hp]; exact hr.in (by omega) (by omega)
  rw [ct, hp]
  by_cases c : mat tg k = 5590600
  · rw [if_pos c, if_pos c, tm_L hz hn 41 0 (k + 1) (cI σ e 11 (k + 1)) (by simp [cI, upI]) hr (by omega) (by omega) (by omega) (by omega) (by omega), cI_cI]
  · rw [if_neg c, if_neg c]
/-- take's last loop from k on -/
def tkr (k : Int) (ν : mS) : mS := c_mtakeL5 (42 - k).toNat k ν
theorem tkr_end {k : Int} {ν : mS} (h : ν.1 24 - 1 ≤ k) : tkr k ν = ν := by
  unfold tkr
  cases hq : (42 - k).toNat with
  | zero => rfl
  | succ q => rw [c_mtakeL5, if_pos h]
theorem tkr_step {k : Int} {ν : mS} (h0 : k ≤ 41) (h : k < ν.1 24 - 1) : tkr k ν = (if (mat (ν.2 25) k) = 5590599 then (tkr (k + 1) (mfl (mar ν 40 (ν.1 39) k) 39 ((ν.1 39) + 1))) else (if (mat (ν.2 25) k) = 5590597 then (tkr (k + 1) (mar ν 41 ((ν.1 39) - 1) k)) else (if (mat (ν.2 25) k) = 5590600 then (tkr (k + 1) (mfl (mar (mar ν 34 (ν.1 33) k) 36 (ν.1 33) ((ν.1 39) - 1)) 33 ((ν.1 33) + 1))) else (if (mat (ν.2 25) k) = 5590612 then (tkr (k + 1) (mar ν 35 ((ν.1 33) - 1) k)) else (tkr (k + 1) ν))))) := by
  unfold tkr
  have e : (42 - k).toNat = (42 - (k + 1)).toNat + 1 := by omega
  rw [e, c_mtakeL5, if_neg (by omega)]
theorem isE_no {v : Int} (h : ¬ isE v = true) : ¬ v = 5590599 ∧ ¬ v = 5590597 ∧ ¬ v = 5590600 ∧ ¬ v = 5590612 := by
  unfold isE c_misEnvelope at h
  refine ⟨fun q => h ?_, fun q => h ?_, fun q => h ?_, fun q => h ?_⟩ <;> subst q <;> decide
/-- what stands between the tags of envelopes is passed -/
theorem tkr_NX {tg : List Int} {n : Int} {ν : mS} (hn : n ≤ 40) (h24 : ν.1 24 = n) (ht : ∀ x, 0 ≤ x → x < n → mat (ν.2 25) x = mat tg x) (d : Nat) : ∀ k, 0 ≤ k → n - 1 - k = (d : Int) → tkr k ν = tkr (NX tg n k) ν := by
  induction d with
  | zero => intro k h0 h; rw [NX_step, if_pos (by omega)]
  | succ d ih =>
    intro k h0 h
    rw [NX_step, if_neg (by omega)]
    by_cases c : isE (mat tg k) = true
    · rw [if_pos c]
    · rw [if_neg c]
      have q := isE_no c
      rw [← ht k h0 (by omega)] at q
      rw [tkr_step (by omega) (by omega), if_neg q.1, if_neg q.2.1, if_neg q.2.2.1, if_neg q.2.2.2]
      exact ih (k + 1) (by omega) (by omega)
