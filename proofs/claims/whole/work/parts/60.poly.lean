/-! PURE: polynomials of the class. Pl σ p c: the Poly p holds the coefficients c and its degree -/
def inP (p w : Nat) : Prop := 16 * p ≤ w ∧ w < 16 * p + 16
def Cg (σ σ' : CS) (S D : Nat → Prop) : Prop := (∀ w, ¬ S w → cF σ' w = cF σ w ∧ cS σ' w = cS σ w ∧ cG σ' w = cG σ w) ∧ (∀ p, ¬ D p → cD σ' p = cD σ p) ∧ ∀ k, cK σ' k = cK σ k
theorem Ch.cg {σ σ' : CS} {S : Nat → Prop} (h : Ch σ σ' S) (D : Nat → Prop) : Cg σ σ' S D := ⟨h.1, fun p _ => h.d p, h.k⟩
theorem Cg.refl (σ : CS) (S D : Nat → Prop) : Cg σ σ S D := ⟨fun _ _ => ⟨rfl, rfl, rfl⟩, fun _ _ => rfl, fun _ => rfl⟩
theorem Cg.trans {σ σ1 σ2 : CS} {S D : Nat → Prop} (h1 : Cg σ σ1 S D) (h2 : Cg σ1 σ2 S D) : Cg σ σ2 S D := ⟨fun w hw => ⟨(h2.1 w hw).1.trans (h1.1 w hw).1, (h2.1 w hw).2.1.trans (h1.1 w hw).2.1, (h2.1 w hw).2.2.trans (h1.1 w hw).2.2⟩, fun p hp => (h2.2.1 p hp).trans (h1.2.1 p hp), fun k => (h2.2.2 k).trans (h1.2.2 k)⟩
theorem Cg.mono {σ σ' : CS} {S D S2 D2 : Nat → Prop} (h : Cg σ σ' S D) (h1 : ∀ w, S w → S2 w) (h2 : ∀ p, D p → D2 p) : Cg σ σ' S2 D2 := ⟨fun w hw => h.1 w (fun z => hw (h1 w z)), fun p hp => h.2.1 p (fun z => hp (h2 p z)), h.2.2⟩
theorem RpW.cg {σ σ' : CS} {S D : Nat → Prop} {w : Nat} {x : Int} (h : RpW σ w x) (hc : Cg σ σ' S D) (hw : ¬ S w) : RpW σ' w x := by
  obtain ⟨h1, h2, h3⟩ := hc.1 w hw
  unfold RpW
  rw [h1, h2, h3]
  exact h
theorem Cg.sD (σ : CS) (p : Nat) (v : Int32) (S : Nat → Prop) : Cg σ (sD σ p v) S (fun z => z = p) := ⟨fun w _ => ⟨rfl, rfl, rfl⟩, fun q hq => up_ne (f := σ.2.2.2.1) hq, fun _ => rfl⟩
theorem cD_sD (σ : CS) (p : Nat) (v : Int32) : cD (sD σ p v) p = v := up_eq (f := σ.2.2.2.1)
theorem RpW.sD {σ : CS} {w p : Nat} {v : Int32} {x : Int} (h : RpW σ w x) : RpW (sD σ p v) w x := h
def ln (c : Nat → Int) : Nat → Nat
  | 0 => 0
  | n + 1 => if c n = 0 then ln c n else n + 1
theorem ln_le (c : Nat → Int) (n : Nat) : ln c n ≤ n := by
  induction n with
  | zero => exact Nat.le_refl _
  | succ n ih =>
    unfold ln
    split
    · omega
    · omega
theorem ln_zero {c : Nat → Int} {n i : Nat} (h1 : ln c n ≤ i) (h2 : i < n) : c i = 0 := by
  induction n with
  | zero => omega
  | succ n ih =>
    unfold ln at h1
    split at h1
    · next h =>
      rcases Nat.eq_or_lt_of_le (Nat.le_of_lt_succ h2) with e | e
      · rw [e]; exact h
      · exact ih h1 e
    · omega
theorem ln_top {c : Nat → Int} {n : Nat} (h : ln c n ≠ 0) : c (ln c n - 1) ≠ 0 := by
  induction n with
  | zero => exact absurd rfl h
  | succ n ih =>
    unfold ln at h ⊢
    split
    · next h1 =>
      rw [if_pos h1] at h
      exact ih h
    · next h1 => exact h1
theorem ln_uniq {c : Nat → Int} {n L : Nat} (hL : L ≤ n) (h1 : ∀ i, L ≤ i → i < n → c i = 0) (h2 : L ≠ 0 → c (L - 1) ≠ 0) : ln c n = L := by
  induction n with
  | zero =>
    have : L = 0 := by omega
    subst this
    rfl
  | succ n ih =>
    unfold ln
    rcases Nat.eq_or_lt_of_le hL with e | e
    · rw [if_neg]
      · exact e.symm
      · have := h2 (by omega)
        rw [e, Nat.add_sub_cancel] at this
        exact this
    · rw [if_pos (h1 n (by omega) (by omega))]
      exact ih (by omega) (fun i a b => h1 i a (by omega))
theorem ln_ext {c : Nat → Int} {m n : Nat} (hm : m ≤ n) (h : ∀ i, m ≤ i → c i = 0) : ln c n = ln c m := by
  refine ln_uniq (Nat.le_trans (ln_le c m) hm) (fun i h1 h2 => ?_) (fun h1 => ln_top h1)
  rcases Nat.lt_or_ge i m with h3 | h3
  · exact ln_zero h1 h3
  · exact h i h3
/-- how long a polynomial is: its degree and one -/
def dl (c : Nat → Int) : Nat := ln c 9
def Pl (σ : CS) (p : Nat) (c : Nat → Int) : Prop := (∀ i, i < tlen p → RpW σ (16 * p + i) (c i)) ∧ (∀ i, tlen p ≤ i → c i = 0) ∧ cD σ p = nI (dl c) - 1
theorem tlen_le (p : Nat) : tlen p ≤ 9 := Nat.min_le_left _ _
theorem Pl.len {σ : CS} {p : Nat} {c : Nat → Int} (h : Pl σ p c) : dl c ≤ tlen p := by
  unfold dl
  rw [ln_ext (tlen_le p) h.2.1]
  exact ln_le _ _
theorem dl_le (c : Nat → Int) : dl c ≤ 9 := ln_le c 9
theorem Pl.zero {σ : CS} {p : Nat} {c : Nat → Int} (h : Pl σ p c) {i : Nat} (hi : dl c ≤ i) : c i = 0 := by
  rcases Nat.lt_or_ge i 9 with h1 | h1
  · exact ln_zero hi h1
  · exact h.2.1 i (Nat.le_trans (tlen_le p) h1)
theorem Pl.cg {σ σ' : CS} {S D : Nat → Prop} {p : Nat} {c : Nat → Int} (h : Pl σ p c) (hc : Cg σ σ' S D) (hS : ∀ w, inP p w → ¬ S w) (hD : ¬ D p) : Pl σ' p c :=
  ⟨fun i hi => (h.1 i hi).cg hc (hS _ ⟨by omega, by have := tlen_le p; omega⟩), h.2.1, by rw [hc.2.1 p hD]; exact h.2.2⟩
theorem deg_toInt {L : Nat} (hL : L ≤ 9) : (nI L - 1).toInt = (L : Int) - 1 := pk_sub_toInt (a := L) (b := 1) (by omega) (by omega)
theorem deg_lt {L i : Nat} (hL : L ≤ 9) (hi : i < 1000) : nI L - 1 < nI i ↔ L ≤ i := by
  rw [Int32.lt_iff_toInt_lt, deg_toInt hL, nI_toInt (by omega)]
  omega
theorem deg_le {L i : Nat} (hL : L ≤ 9) (hi : i < 1000) : nI L - 1 ≤ nI i ↔ L ≤ i + 1 := by
  rw [Int32.le_iff_toInt_le, deg_toInt hL, nI_toInt (by omega)]
  omega
theorem deg_neg {L : Nat} (hL : L ≤ 9) : nI L - 1 < 0 ↔ L = 0 := by
  rw [Int32.lt_iff_toInt_lt, deg_toInt hL]
  show (L : Int) - 1 < 0 ↔ _
  omega
theorem deg_nn {L : Nat} (hL : L ≤ 9) : 0 ≤ nI L - 1 ↔ L ≠ 0 := by
  rw [Int32.le_iff_toInt_le, deg_toInt hL]
  show 0 ≤ (L : Int) - 1 ↔ _
  omega
theorem deg_inj {L M : Nat} (hL : L ≤ 9) (hM : M ≤ 9) : nI L - 1 = nI M - 1 ↔ L = M := by
  rw [← Int32.toInt_inj, deg_toInt hL, deg_toInt hM]
  omega
theorem deg_s {L : Nat} (h : L ≠ 0) : nI L - 1 = nI (L - 1) := pk_sub (b := 1) (by omega)
theorem RpW.sg {σ : CS} {w : Nat} {x : Int} (h : RpW σ w x) : cG σ w = sg32 x := by
  obtain ⟨n, h1, h2, h3, h4, h5, h6⟩ := h
  exact h6
theorem m1p1 (k : Nat) : nI k + (-1) + 1 = nI k := by rw [Int32.add_assoc, show (-1 + 1 : Int32) = 0 by decide, Int32.add_zero]
theorem sp_measure {p : Nat} {c : Nat → Int} {σ : CS} {Q : CS → Prop} (hp : p < 20) (h1 : ∀ i, i < tlen p → RpW σ (16 * p + i) (c i)) (h2 : ∀ i, tlen p ≤ i → c i = 0) (hQ : ∀ σ', Pl σ' p c → Cg σ σ' (fun _ => False) (fun z => z = p) → Q σ') : wpX2_measure p σ Q := by
  have ht := tlen_le p
  have hfin : Q (sD σ p (nI (dl c) - 1)) := hQ _ ⟨fun i hi => (h1 i hi).sD, h2, cD_sD _ _ _⟩ (Cg.sD σ p _ _)
  show wpX2_measure_0 p Q σ
  unfold wpX2_measure_0
  intro a ha
  rw [ofN] at ha
  refine lq2_i (I := fun a τ => τ = σ ∧ ∃ k, k ≤ tlen p ∧ a = nI k - 1 ∧ ∀ i, k ≤ i → c i = 0) (μ := fun a _ => (a + 1).toNatClampNeg) ?_ _ _ ⟨rfl, tlen p, Nat.le_refl _, ha, h2⟩
  rintro N a τ ⟨rfl, k, hk, rfl, hz⟩ hN
  unfold wbX2_measure_8 wpX2_measure_30
  have hd : (k ≠ 0 → c (k - 1) ≠ 0) → dl c = k := fun h => ln_uniq (by omega) (fun i a b => hz i a) h
  refine ⟨fun h => ?_, fun h => ?_⟩
  · have e := (deg_neg (by omega)).mp h
    rw [hd (fun h3 => absurd e h3)] at hfin
    exact hfin
  · have e : k ≠ 0 := fun e => h ((deg_neg (by omega)).mpr e)
    rw [deg_s e] at *
    rw [nI_clamp (by omega), (h1 (k - 1) (by omega)).sg]
    refine ⟨pk_in (k - 1) _ (by omega), fun h3 => ?_, fun h3 a2 ha2 => ?_⟩
    · have h4 : c (k - 1) ≠ 0 := fun e2 => h3 (sg32_eq0.mpr e2)
      rw [hd (fun _ => h4), deg_s e] at hfin
      exact hfin
    · subst ha2
      refine hN _ _ ⟨rfl, k - 1, by omega, (Int32.sub_eq_add_neg _ _).symm, fun i hi => ?_⟩ ?_
      · rcases Nat.eq_or_lt_of_le hi with e2 | e2
        · rw [← e2]
          exact sg32_eq0.mp h3
        · exact hz i (by omega)
      · show (nI (k - 1) + -1 + 1 : Int32).toNatClampNeg < (nI (k - 1) + 1 : Int32).toNatClampNeg
        rw [m1p1, nI_1, nI_clamp (by omega), nI_clamp (by omega)]
        omega
theorem Ch.p {σ σ' : CS} {p i : Nat} (h : Ch σ σ' (fun z => z = 16 * p + i)) (hi : i < 16) : Cg σ σ' (inP p) (fun _ => False) := (h.cg _).mono (fun w hw => by rw [hw]; exact ⟨by omega, by omega⟩) (fun _ z => z)
theorem sp_pclear {p : Nat} {σ : CS} {Q : CS → Prop} (hp : p < 20) (hQ : ∀ σ', Pl σ' p (fun _ => 0) → Cg σ σ' (inP p) (fun z => z = p) → Q σ') : wpX2_clear p σ Q := by
  have ht := tlen_le p
  show ∃ n, lq2 (wbX2_clear_2 p Q) n (0 : Int32) σ
  refine lq2_i (I := fun a τ => ∃ k, k ≤ tlen p ∧ a = nI k ∧ (∀ i, i < k → RpW τ (16 * p + i) 0) ∧ Cg σ τ (inP p) (fun _ => False)) (μ := fun a _ => tlen p - a.toNatClampNeg) ?_ _ _ ⟨0, by omega, rfl, fun i hi => absurd hi (by omega), Cg.refl _ _ _⟩
  rintro N a τ ⟨k, hk, rfl, hR, hC⟩ hN
  unfold wbX2_clear_2
  rw [ofN, nI_clamp (by omega)]
  refine pk_le (tlen p) k (fun h => ?_) (fun h => ⟨pk_in k _ (by omega), sp_clear (fun σ3 hr hc a4 ha4 => ?_)⟩) rfl rfl (by omega) (by omega)
  · have : k = tlen p := by omega
    subst this
    exact hQ _ ⟨fun i hi => (hR i hi).sD, fun _ _ => rfl, by rw [cD_sD]; decide⟩ ((hC.mono (fun _ z => z) (fun _ z => z.elim)).trans (Cg.sD τ p _ _))
  · rw [nI_1] at ha4
    subst ha4
    refine hN _ _ ⟨k + 1, by omega, rfl, fun i hi => ?_, hC.trans (hc.p (by omega))⟩ ?_
    · rcases Nat.eq_or_lt_of_le (Nat.le_of_lt_succ hi) with e | e
      · rw [e]; exact hr
      · exact (hR i e).ch hc (by omega)
    · show tlen p - (nI (k + 1)).toNatClampNeg < tlen p - (nI k).toNatClampNeg
      rw [nI_clamp (by omega), nI_clamp (by omega)]
      omega
theorem sp_psetOne {p : Nat} {σ : CS} {Q : CS → Prop} (hp : p < 20) (hQ : ∀ σ', Pl σ' p (fun i => if i = 0 then 1 else 0) → Cg σ σ' (inP p) (fun z => z = p) → Q σ') : wpX2_setOne p σ Q := by
  have ht := tlen_pos p hp
  show wpX2_setOne_0 p Q σ
  unfold wpX2_setOne_0
  refine sp_pclear hp (fun σ2 hP hC => ⟨pk_in 0 _ (by omega) nI_0.symm, sp_setOne (fun σ5 hr hc => ?_)⟩)
  have e0 : (0 : Int32).toNatClampNeg = 0 := rfl
  rw [e0] at hr hc
  refine hQ _ ⟨fun i hi => ?_, fun i hi => if_neg (by omega), ?_⟩ (hC.trans (((hc.p (by omega)).mono (fun _ z => z) (fun _ z => z.elim)).trans (Cg.sD σ5 p _ _)))
  · by_cases e : i = 0
    · subst e
      exact hr.sD
    · show RpW _ _ (if i = 0 then 1 else 0)
      rw [if_neg e]
      exact ((hP.1 i hi).ch hc (by omega)).sD
  · rw [cD_sD]
    decide
