/-! PURE: the class's numbers. mag f n: the digits below n, base 2^31; RpW σ w x: the Whole w holds x in normal form; Ch σ σ' S: nothing but the Wholes in S has changed -/
def dg (f : Nat → Int32) (i : Nat) : Nat := (f i).toNatClampNeg
def okd (f : Nat → Int32) (n : Nat) : Prop := ∀ i, i < n → f i = nI (dg f i)
def mag (f : Nat → Int32) : Nat → Nat
  | 0 => 0
  | n + 1 => mag f n + dg f n * 2147483648 ^ n
theorem dg_lt (f : Nat → Int32) (i : Nat) : dg f i < 2147483648 := by
  unfold dg
  have h := Int32.toInt_lt (f i)
  show (f i).toInt.toNat < _
  omega
theorem dg_nI {f : Nat → Int32} {i d : Nat} (h : f i = nI d) (hd : d < 2147483648) : dg f i = d := by
  unfold dg
  rw [h]
  exact nI_clamp (by omega)
theorem mag_s (f : Nat → Int32) (n : Nat) : mag f (n + 1) = mag f n + dg f n * 2147483648 ^ n := rfl
theorem mag_lt (f : Nat → Int32) (n : Nat) : mag f n < 2147483648 ^ n := by
  induction n with
  | zero => exact Nat.one_pos
  | succ n ih =>
    rw [mag_s, Nat.pow_succ]
    have h1 := dg_lt f n
    have h2 : dg f n * 2147483648 ^ n ≤ 2147483647 * 2147483648 ^ n := Nat.mul_le_mul_right _ (by omega)
    omega
theorem mag_congr {f g : Nat → Int32} {n : Nat} (h : ∀ i, i < n → f i = g i) : mag f n = mag g n := by
  induction n with
  | zero => rfl
  | succ n ih =>
    rw [mag_s, mag_s, ih (fun i hi => h i (by omega)), dg, dg, h n (by omega)]
theorem okd_congr {f g : Nat → Int32} {n : Nat} (h : ∀ i, i < n → g i = f i) (ho : okd f n) : okd g n := by
  intro i hi
  have e := h i hi
  have e2 : dg g i = dg f i := by unfold dg; rw [e]
  rw [e2, e]
  exact ho i hi
theorem okd_of {f : Nat → Int32} {n : Nat} (h : ∀ i, i < n → ∃ d : Nat, d < 2147483648 ∧ f i = nI d) : okd f n := by
  intro i hi
  obtain ⟨d, h1, h2⟩ := h i hi
  rw [dg_nI h2 h1]
  exact h2
theorem okd.sub {f : Nat → Int32} {n m : Nat} (h : okd f n) (hm : m ≤ n) : okd f m := fun i hi => h i (by omega)
theorem mag_ge {f : Nat → Int32} {n : Nat} (h : okd f (n + 1)) (h0 : f n ≠ 0) : 2147483648 ^ n ≤ mag f (n + 1) := by
  have h1 : dg f n ≠ 0 := by
    intro e
    apply h0
    rw [h n (by omega), e]
    exact nI_0
  rw [mag_s]
  have h2 : 1 * 2147483648 ^ n ≤ dg f n * 2147483648 ^ n := Nat.mul_le_mul_right _ (by omega)
  omega
def sg32 (x : Int) : Int32 := if x < 0 then -1 else if x = 0 then 0 else 1
theorem sg32_0 : sg32 0 = 0 := rfl
theorem sg32_eq0 {x : Int} : sg32 x = 0 ↔ x = 0 := by
  unfold sg32
  by_cases h : x < 0
  · rw [if_pos h]
    constructor
    · intro e; exact absurd e (by decide)
    · intro e; omega
  · rw [if_neg h]
    by_cases h2 : x = 0
    · rw [if_pos h2]; simp [h2]
    · rw [if_neg h2]; simp [h2]
theorem sg32_neg (x : Int) : sg32 (-x) = -sg32 x := by
  unfold sg32
  rcases Int.lt_trichotomy x 0 with h | h | h
  · rw [if_neg (by omega), if_neg (by omega), if_pos h]; rfl
  · subst h; rfl
  · rw [if_pos (by omega), if_neg (by omega), if_neg (by omega)]
theorem sg32_pos {x : Int} (h : 0 < x) : sg32 x = 1 := by
  unfold sg32
  rw [if_neg (by omega), if_neg (by omega)]
theorem sg32_lt {x : Int} (h : x < 0) : sg32 x = -1 := by
  unfold sg32
  rw [if_pos h]
theorem sg32_iff {x y : Int} (h : sg32 x = sg32 y) : (x < 0 ↔ y < 0) ∧ (x = 0 ↔ y = 0) := by
  unfold sg32 at h
  rcases Int.lt_trichotomy x 0 with h1 | h1 | h1 <;> rcases Int.lt_trichotomy y 0 with h2 | h2 | h2
  · omega
  · rw [if_pos h1, if_neg (by omega), if_pos h2] at h; exact absurd h (by decide)
  · rw [if_pos h1, if_neg (by omega), if_neg (by omega)] at h; exact absurd h (by decide)
  · rw [if_neg (by omega), if_pos h1, if_pos h2] at h; exact absurd h (by decide)
  · omega
  · rw [if_neg (by omega), if_pos h1, if_neg (by omega), if_neg (by omega)] at h; exact absurd h (by decide)
  · rw [if_neg (by omega), if_neg (by omega), if_pos h2] at h; exact absurd h (by decide)
  · rw [if_neg (by omega), if_neg (by omega), if_neg (by omega), if_pos h2] at h; exact absurd h (by decide)
  · omega
def RpW (σ : CS) (w : Nat) (x : Int) : Prop := ∃ n, n ≤ capW w ∧ cS σ w = nI n ∧ okd (cF σ w) n ∧ (n ≠ 0 → cF σ w (n - 1) ≠ 0) ∧ x.natAbs = mag (cF σ w) n ∧ cG σ w = sg32 x
theorem capW_le (w : Nat) : capW w ≤ 300 := by
  unfold capW
  split
  · omega
  · split
    · omega
    · split
      · omega
      · split
        · omega
        · split <;> omega
theorem capW_pos (w : Nat) : 6 ≤ capW w := by
  unfold capW
  split
  · omega
  · split
    · omega
    · split
      · omega
      · split
        · omega
        · split <;> omega
theorem pow_mono {a b : Nat} (h : a ≤ b) : 2147483648 ^ a ≤ 2147483648 ^ b := Nat.pow_le_pow_right (by omega) h
/-- the size of a normal form, by its value -/
theorem rp_size {f : Nat → Int32} {n k : Nat} (ho : okd f n) (ht : n ≠ 0 → f (n - 1) ≠ 0) (h : mag f n < 2147483648 ^ k) : n ≤ k := by
  rcases Nat.lt_or_ge k n with h1 | h1
  · exfalso
    obtain ⟨m, rfl⟩ : ∃ m, n = m + 1 := ⟨n - 1, by omega⟩
    have h2 := mag_ge ho (ht (by omega))
    have h3 := pow_mono (show k ≤ m by omega)
    omega
  · exact h1
theorem mag_0 {f : Nat → Int32} {n : Nat} (ho : okd f n) (ht : n ≠ 0 → f (n - 1) ≠ 0) : mag f n = 0 ↔ n = 0 := by
  constructor
  · intro h
    have h1 := rp_size (k := 0) ho ht (by rw [h]; exact Nat.one_pos)
    omega
  · rintro rfl
    rfl
def Ch (σ σ' : CS) (S : Nat → Prop) : Prop := (∀ w, ¬ S w → cF σ' w = cF σ w ∧ cS σ' w = cS σ w ∧ cG σ' w = cG σ w) ∧ σ'.2.2.2 = σ.2.2.2
theorem Ch.refl (σ : CS) (S : Nat → Prop) : Ch σ σ S := ⟨fun _ _ => ⟨rfl, rfl, rfl⟩, rfl⟩
theorem Ch.trans {σ σ1 σ2 : CS} {S : Nat → Prop} (h1 : Ch σ σ1 S) (h2 : Ch σ1 σ2 S) : Ch σ σ2 S := ⟨fun w hw => ⟨(h2.1 w hw).1.trans (h1.1 w hw).1, (h2.1 w hw).2.1.trans (h1.1 w hw).2.1, (h2.1 w hw).2.2.trans (h1.1 w hw).2.2⟩, h2.2.trans h1.2⟩
theorem Ch.mono {σ σ' : CS} {S T : Nat → Prop} (h : Ch σ σ' S) (hs : ∀ w, S w → T w) : Ch σ σ' T := ⟨fun w hw => h.1 w (fun z => hw (hs w z)), h.2⟩
theorem Ch.d {σ σ' : CS} {S : Nat → Prop} (h : Ch σ σ' S) (p : Nat) : cD σ' p = cD σ p := by unfold cD; rw [h.2]
theorem Ch.k {σ σ' : CS} {S : Nat → Prop} (h : Ch σ σ' S) (j : Nat) : cK σ' j = cK σ j := by unfold cK; rw [h.2]
theorem RpW.ch {σ σ' : CS} {S : Nat → Prop} {w : Nat} {x : Int} (h : RpW σ w x) (hc : Ch σ σ' S) (hw : ¬ S w) : RpW σ' w x := by
  obtain ⟨h1, h2, h3⟩ := hc.1 w hw
  unfold RpW
  rw [h1, h2, h3]
  exact h
theorem Ch.sS (σ : CS) (w : Nat) (v : Int32) : Ch σ (sS σ w v) (fun z => z = w) := ⟨fun z hz => ⟨rfl, up_ne (f := σ.2.1) hz, rfl⟩, rfl⟩
theorem Ch.sG (σ : CS) (w : Nat) (v : Int32) : Ch σ (sG σ w v) (fun z => z = w) := ⟨fun z hz => ⟨rfl, rfl, up_ne (f := σ.2.2.1) hz⟩, rfl⟩
theorem Ch.sF (σ : CS) (w : Nat) (f : Nat → Int32) : Ch σ (sF σ w f) (fun z => z = w) := ⟨fun z hz => ⟨up_ne (f := σ.1) hz, rfl, rfl⟩, rfl⟩
theorem Ch.sFi (σ : CS) (w : Nat) (i x : Int32) : Ch σ (sFi σ w i x) (fun z => z = w) := Ch.sF σ w _
/-! reading behind a write -/
theorem cS_sS (σ : CS) (w : Nat) (v : Int32) : cS (sS σ w v) w = v := up_eq (f := σ.2.1)
theorem cS_sS_ne {σ : CS} {w z : Nat} {v : Int32} (h : z ≠ w) : cS (sS σ w v) z = cS σ z := up_ne (f := σ.2.1) h
theorem cS_sG (σ : CS) (w z : Nat) (v : Int32) : cS (sG σ w v) z = cS σ z := rfl
theorem cS_sF (σ : CS) (w z : Nat) (f : Nat → Int32) : cS (sF σ w f) z = cS σ z := rfl
theorem cS_sFi (σ : CS) (w z : Nat) (i x : Int32) : cS (sFi σ w i x) z = cS σ z := rfl
theorem cG_sG (σ : CS) (w : Nat) (v : Int32) : cG (sG σ w v) w = v := up_eq (f := σ.2.2.1)
theorem cG_sG_ne {σ : CS} {w z : Nat} {v : Int32} (h : z ≠ w) : cG (sG σ w v) z = cG σ z := up_ne (f := σ.2.2.1) h
theorem cG_sS (σ : CS) (w z : Nat) (v : Int32) : cG (sS σ w v) z = cG σ z := rfl
theorem cG_sF (σ : CS) (w z : Nat) (f : Nat → Int32) : cG (sF σ w f) z = cG σ z := rfl
theorem cG_sFi (σ : CS) (w z : Nat) (i x : Int32) : cG (sFi σ w i x) z = cG σ z := rfl
theorem cF_sF (σ : CS) (w : Nat) (f : Nat → Int32) : cF (sF σ w f) w = f := up_eq (f := σ.1)
theorem cF_sF_ne {σ : CS} {w z : Nat} {f : Nat → Int32} (h : z ≠ w) : cF (sF σ w f) z = cF σ z := up_ne (f := σ.1) h
theorem cF_sS (σ : CS) (w z : Nat) (v : Int32) : cF (sS σ w v) z = cF σ z := rfl
theorem cF_sG (σ : CS) (w z : Nat) (v : Int32) : cF (sG σ w v) z = cF σ z := rfl
theorem cF_sFi (σ : CS) (w : Nat) (i x : Int32) : cF (sFi σ w i x) w = upd (cF σ w) i.toNatClampNeg x := cF_sF σ w _
theorem cF_sFi_ne {σ : CS} {w z : Nat} {i x : Int32} (h : z ≠ w) : cF (sFi σ w i x) z = cF σ z := cF_sF_ne h
theorem sS_self {σ : CS} {w : Nat} {v : Int32} (h : cS σ w = v) : sS σ w v = σ := by
  obtain ⟨a, b, c⟩ := σ
  unfold sS
  have e : va_up b w v = b := by
    funext j
    unfold va_up
    by_cases hj : j = w
    · subst hj
      rw [if_pos rfl]
      exact h.symm
    · rw [if_neg hj]
  show (a, va_up b w v, c) = (a, b, c)
  rw [e]
theorem sS_sS (σ : CS) (w : Nat) (u v : Int32) : sS (sS σ w u) w v = sS σ w v := by
  unfold sS
  show (σ.1, va_up (va_up σ.2.1 w u) w v, σ.2.2) = _
  rw [bx_uu]
/-! trim, clear, put, setOne, negate, isUnit -/
theorem sp_trim {w n : Nat} {σ : CS} {Q : CS → Prop} (hn : cS σ w = nI n) (hc : n ≤ capW w) (ho : okd (cF σ w) n)
    (hQ : ∀ m, m ≤ n → mag (cF σ w) m = mag (cF σ w) n → (m ≠ 0 → cF σ w (m - 1) ≠ 0) → Q (if m = 0 then sG (sS σ w (nI m)) w 0 else sS σ w (nI m))) : wpX3_trim w σ Q := by
  have hcap := capW_le w
  refine lq1_i (I := fun τ => ∃ m, m ≤ n ∧ τ = sS σ w (nI m) ∧ mag (cF σ w) m = mag (cF σ w) n) (μ := fun τ => (cS τ w).toNatClampNeg) ?_ σ ⟨n, Nat.le_refl _, (sS_self hn).symm, rfl⟩
  rintro N τ ⟨m, hm, rfl, hmag⟩ hN
  unfold wbX3_trim_0
  have hs : cS (sS σ w (nI m)) w = nI m := cS_sS σ w _
  have hexit : (m ≠ 0 → cF σ w (m - 1) ≠ 0) → wpX3_trim_34 w Q (sS σ w (nI m)) := by
    intro ht
    unfold wpX3_trim_34
    rw [hs]
    have hq := hQ m hm hmag ht
    refine ⟨fun h => ?_, fun h => ?_⟩
    · have h0 : m ≠ 0 := fun e => h (by rw [e]; exact nI_0)
      rw [if_neg h0] at hq
      exact hq
    · have h0 : m = 0 := (nI_eq (a := m) (b := 0) (by omega) (by omega)).mp (h.trans nI_0.symm)
      rw [if_pos h0] at hq
      exact hq
  rw [hs]
  refine pk_le m 0 (fun h => ?_) (fun h => ?_) rfl nI_0.symm
  · exact hexit (fun h0 => absurd (by omega) h0)
  · have e1 : nI m - 1 = nI (m - 1) := by
      rw [show m = m - 1 + 1 by omega]
      exact nI_pred _
    refine ⟨pk_in (m - 1) (capW w) (by omega) e1, ?_⟩
    rw [e1, nI_clamp (by omega)]
    have e2 : cF (sS σ w (nI m)) w = cF σ w := rfl
    rw [e2]
    refine ⟨fun h2 => hexit (fun _ => h2), fun h2 => ?_⟩
    rw [sS_sS]
    refine hN _ ⟨m - 1, by omega, rfl, ?_⟩ ?_
    · rw [← hmag]
      have e3 : m = m - 1 + 1 := by omega
      have e4 : dg (cF σ w) (m - 1) = 0 := dg_nI (by rw [h2]; exact nI_0.symm) (by omega)
      rw [e3, mag_s, Nat.add_sub_cancel, e4]
      omega
    · show (cS (sS σ w (nI (m - 1))) w).toNatClampNeg < (cS (sS σ w (nI m)) w).toNatClampNeg
      rw [cS_sS, cS_sS, nI_clamp (by omega), nI_clamp (by omega)]
      omega
/-- behind a trim: the number stands in normal form -/
theorem sp_trimR {w n : Nat} {σ : CS} {Q : CS → Prop} {x : Int} (hn : cS σ w = nI n) (hc : n ≤ capW w) (ho : okd (cF σ w) n) (hx : x.natAbs = mag (cF σ w) n) (hs : x ≠ 0 → cG σ w = sg32 x)
    (hQ : ∀ σ', RpW σ' w x → Ch σ σ' (fun z => z = w) → cF σ' w = cF σ w → Q σ') : wpX3_trim w σ Q := by
  refine sp_trim hn hc ho (fun m hm hmag ht => ?_)
  have h0 : mag (cF σ w) m = 0 ↔ m = 0 := mag_0 (ho.sub hm) ht
  by_cases e : m = 0
  · rw [if_pos e]
    have hx0 : x = 0 := by
      have := h0.mpr e
      omega
    refine hQ _ ⟨m, by omega, by rw [cS_sG, cS_sS], ho.sub hm, ht, by rw [hx, ← hmag]; rfl, by rw [cG_sG, hx0]; rfl⟩ ((Ch.sS σ w _).trans (Ch.sG _ w _)) rfl
  · rw [if_neg e]
    have hx0 : x ≠ 0 := by
      intro e2
      apply e
      apply h0.mp
      rw [hmag, ← hx, e2]
      rfl
    exact hQ _ ⟨m, by omega, by rw [cS_sS], ho.sub hm, ht, by rw [hx, ← hmag]; rfl, by rw [cG_sS]; exact hs hx0⟩ (Ch.sS σ w _) rfl
theorem sp_clear {w : Nat} {σ : CS} {Q : CS → Prop} (hQ : ∀ σ', RpW σ' w 0 → Ch σ σ' (fun z => z = w) → Q σ') : wpX3_clear w σ Q := by
  show Q (sG (sS σ w 0) w 0)
  refine hQ _ ⟨0, Nat.zero_le _, by rw [cS_sG, cS_sS, nI_0], fun i hi => absurd hi (by omega), fun h => absurd rfl h, rfl, by rw [cG_sG]; rfl⟩ ((Ch.sS σ w _).trans (Ch.sG _ w _))
theorem sp_negate {w : Nat} {σ : CS} {x : Int} {Q : CS → Prop} (h : RpW σ w x) (hQ : ∀ σ', RpW σ' w (-x) → Ch σ σ' (fun z => z = w) → Q σ') : wpX3_negate w σ Q := by
  obtain ⟨n, h1, h2, h3, h4, h5, h6⟩ := h
  show Q (sG σ w (-(cG σ w)))
  exact hQ _ ⟨n, h1, h2, h3, h4, by show (-x).natAbs = mag (cF σ w) n; rw [← h5]; omega, by rw [cG_sG, h6, sg32_neg]⟩ (Ch.sG σ w _)
theorem mag_1 (f : Nat → Int32) : mag f 1 = dg f 0 := by
  show 0 + dg f 0 * 1 = _
  omega
theorem sp_isUnit {w : Nat} {σ : CS} {x : Int} {Q : Int32 → CS → Prop} (h : RpW σ w x) (hQ : Q (if x.natAbs = 1 then 1 else 0) σ) : wpX3_isUnit w σ Q := by
  obtain ⟨n, h1, h2, h3, h4, h5, h6⟩ := h
  have hcap := capW_le w
  have hcap2 := capW_pos w
  show wpX3_isUnit_0 w Q σ
  unfold wpX3_isUnit_0 wpX3_isUnit_22
  rw [h2]
  have e1 : ((0 : Int32).toNatClampNeg) = 0 := rfl
  rw [e1]
  refine ⟨fun h => ?_, fun h => ⟨pk_in 0 (capW w) (by omega) nI_0.symm, fun hf => ?_, fun hf => ?_⟩⟩
  · have hn : n ≠ 1 := fun e => h (by rw [e]; rfl)
    have hx : x.natAbs ≠ 1 := by
      intro e
      have h7 := rp_size (k := 1) h3 h4 (by omega)
      have h8 : n = 0 := by omega
      rw [h8] at h5
      have : mag (cF σ w) 0 = 0 := rfl
      omega
    rw [if_neg hx] at hQ
    exact hQ
  · have hn : n = 1 := (nI_eq (a := n) (b := 1) (by omega) (by omega)).mp (h.trans rfl)
    subst hn
    rw [mag_1] at h5
    have hx : x.natAbs ≠ 1 := by
      intro e
      apply hf
      rw [h3 0 (by omega), ← h5, e]
      rfl
    rw [if_neg hx] at hQ
    exact hQ
  · have hn : n = 1 := (nI_eq (a := n) (b := 1) (by omega) (by omega)).mp (h.trans rfl)
    subst hn
    rw [mag_1, dg_nI (d := 1) (by rw [hf]; rfl) (by omega)] at h5
    rw [if_pos h5] at hQ
    exact hQ
