/-! PURE: load, slopeOf, negate, leadSign, signBeyond, fits, isLike of Poly -/
theorem inP_ne {p q w : Nat} (h : p ≠ q) (hw : inP p w) : ¬ inP q w := fun h2 => by
  obtain ⟨a, b⟩ := hw
  obtain ⟨c, d⟩ := h2
  omega
theorem sp_pload {p0 p1 : Nat} {c : Nat → Int} {σ : CS} {Q : CS → Prop} (hp0 : p0 < 20) (hne : p0 ≠ p1) (h : Pl σ p1 c) (hfit : ∀ i, i < tlen p0 → (c i).natAbs < 2147483648 ^ capP p0) (htop : ∀ i, tlen p0 ≤ i → c i = 0)
    (hQ : ∀ σ', Pl σ' p0 c → Cg σ σ' (inP p0) (fun z => z = p0) → Q σ') : wpX2_load p0 p1 σ Q := by
  have ht := tlen_le p0
  have ht1 := tlen_le p1
  have hlen := h.len
  show ∃ n, lq2 (wbX2_load_2 p0 p1 Q) n (0 : Int32) σ
  refine lq2_i (I := fun a τ => ∃ k, k ≤ tlen p0 ∧ a = nI k ∧ (∀ i, i < k → RpW τ (16 * p0 + i) (c i)) ∧ Cg σ τ (inP p0) (fun _ => False)) (μ := fun a _ => tlen p0 - a.toNatClampNeg) ?_ _ _ ⟨0, by omega, rfl, fun i hi => absurd hi (by omega), Cg.refl _ _ _⟩
  rintro N a τ ⟨k, hk, rfl, hR, hC⟩ hN
  unfold wbX2_load_2
  have hP1 : Pl τ p1 c := h.cg hC (fun w hw => inP_ne (Ne.symm hne) hw) (fun z => z)
  rw [ofN, nI_clamp (by omega), hP1.2.2, deg_lt (dl_le c) (by omega)]
  have hstep : ∀ τ2, RpW τ2 (16 * p0 + k) (c k) → Ch τ τ2 (fun z => z = 16 * p0 + k) → k < tlen p0 → wpX2_load_46 p0 p1 Q N (nI k) τ2 := by
    intro τ2 hr hc hlt
    unfold wpX2_load_46
    intro a1 ha1
    rw [nI_1] at ha1
    subst ha1
    refine hN _ _ ⟨k + 1, by omega, rfl, fun i hi => ?_, hC.trans (hc.p (by omega))⟩ ?_
    · rcases Nat.eq_or_lt_of_le (Nat.le_of_lt_succ hi) with e | e
      · rw [e]; exact hr
      · exact (hR i e).ch hc (by omega)
    · show tlen p0 - (nI (k + 1)).toNatClampNeg < tlen p0 - (nI k).toNatClampNeg
      rw [nI_clamp (by omega), nI_clamp (by omega)]
      omega
  refine pk_le (tlen p0) k (fun hh => ?_) (fun hh => ⟨fun h3 => ⟨pk_in k _ (by omega), sp_clear (fun τ2 hr hc => ?_)⟩, fun h3 => ⟨pk_in k _ (by omega), pk_in k _ (by omega), sp_load (hP1.1 k (by omega)) ?_ (fun τ2 hr hc => hstep τ2 hr hc hh)⟩⟩) rfl rfl (by omega) (by omega)
  · have : k = tlen p0 := by omega
    subst this
    exact sp_measure hp0 hR htop (fun σ3 hP3 hC3 => hQ σ3 hP3 ((hC.mono (fun _ z => z) (fun _ z => z.elim)).trans (hC3.mono (fun _ z => z.elim) (fun _ z => z))))
  · refine hstep τ2 ?_ hc hh
    rw [hP1.zero h3]
    exact hr
  · rw [cap_t p0 hp0 k (by omega)]
    exact hfit k hh
theorem natAbs_le_mul {a b : Int} (hb : b ≠ 0) : a.natAbs ≤ (a * b).natAbs := by
  rw [Int.natAbs_mul]
  exact Nat.le_mul_of_pos_right _ (by omega)
/-- the derivative -/
def dv (c : Nat → Int) (i : Nat) : Int := c (i + 1) * ((i : Int) + 1)
theorem sp_slope {p0 p1 : Nat} {c : Nat → Int} {σ : CS} {Q : CS → Prop} (hp0 : p0 < 20) (hne : p0 ≠ p1) (h : Pl σ p1 c) (hfit : ∀ i, i < tlen p0 → (dv c i).natAbs < 2147483648 ^ capP p0) (htop : ∀ i, tlen p0 ≤ i → c (i + 1) = 0)
    (hQ : ∀ σ', Pl σ' p0 (dv c) → Cg σ σ' (inP p0) (fun z => z = p0) → Q σ') : wpX2_slopeOf p0 p1 σ Q := by
  have ht := tlen_le p0
  have ht1 := tlen_le p1
  have hlen := h.len
  show ∃ n, lq2 (wbX2_slopeOf_2 p0 p1 Q) n (0 : Int32) σ
  refine lq2_i (I := fun a τ => ∃ k, k ≤ tlen p0 ∧ a = nI k ∧ (∀ i, i < k → RpW τ (16 * p0 + i) (dv c i)) ∧ Cg σ τ (inP p0) (fun _ => False)) (μ := fun a _ => tlen p0 - a.toNatClampNeg) ?_ _ _ ⟨0, by omega, rfl, fun i hi => absurd hi (by omega), Cg.refl _ _ _⟩
  rintro N a τ ⟨k, hk, rfl, hR, hC⟩ hN
  unfold wbX2_slopeOf_2
  have hP1 : Pl τ p1 c := h.cg hC (fun w hw => inP_ne (Ne.symm hne) hw) (fun z => z)
  rw [ofN, nI_clamp (by omega), hP1.2.2, deg_le (dl_le c) (by omega), nI_1, nI_clamp (by omega)]
  have hstep : ∀ τ2, RpW τ2 (16 * p0 + k) (dv c k) → Ch τ τ2 (fun z => z = 16 * p0 + k) → k < tlen p0 → wpX2_slopeOf_61 p0 p1 Q N (nI k) τ2 := by
    intro τ2 hr hc hlt
    unfold wpX2_slopeOf_61
    intro a1 ha1
    rw [nI_1] at ha1
    subst ha1
    refine hN _ _ ⟨k + 1, by omega, rfl, fun i hi => ?_, hC.trans (hc.p (by omega))⟩ ?_
    · rcases Nat.eq_or_lt_of_le (Nat.le_of_lt_succ hi) with e | e
      · rw [e]; exact hr
      · exact (hR i e).ch hc (by omega)
    · show tlen p0 - (nI (k + 1)).toNatClampNeg < tlen p0 - (nI k).toNatClampNeg
      rw [nI_clamp (by omega), nI_clamp (by omega)]
      omega
  refine pk_le (tlen p0) k (fun hh => ?_) (fun hh => ⟨fun h3 => ⟨pk_in k _ (by omega), sp_clear (fun τ2 hr hc => ?_)⟩, fun h3 => ⟨pk_in k _ (by omega), pk_in (k + 1) _ (by omega), sp_load (hP1.1 (k + 1) (by omega)) ?_ (fun τ2 hr hc => ⟨pk_in k _ (by omega), sp_scale (t := (k : Int) + 1) hr ?_ (by omega) ?_ (fun τ3 hr3 hc3 => hstep τ3 hr3 (hc.trans hc3) hh)⟩)⟩⟩) rfl rfl (by omega) (by omega)
  · have : k = tlen p0 := by omega
    subst this
    exact sp_measure hp0 hR (fun i hi => by unfold dv; rw [htop i hi, Int.zero_mul]) (fun σ3 hP3 hC3 => hQ σ3 hP3 ((hC.mono (fun _ z => z) (fun _ z => z.elim)).trans (hC3.mono (fun _ z => z.elim) (fun _ z => z))))
  · refine hstep τ2 ?_ hc hh
    unfold dv
    rw [hP1.zero h3, Int.zero_mul]
    exact hr
  · rw [cap_t p0 hp0 k (by omega)]
    exact Nat.lt_of_le_of_lt (natAbs_le_mul (show (k : Int) + 1 ≠ 0 by omega)) (hfit k hh)
  · rw [nI_l (by omega), pk_lT (by omega)]
    omega
  · rw [cap_t p0 hp0 k (by omega)]
    exact hfit k hh
theorem dl_neg (c : Nat → Int) : dl (fun i => -(c i)) = dl c := by
  refine ln_uniq (ln_le c 9) (fun i h1 h2 => ?_) (fun h => ?_)
  · show -(c i) = 0
    rw [ln_zero h1 h2]
    rfl
  · show -(c (dl c - 1)) ≠ 0
    have h9 : c (dl c - 1) ≠ 0 := ln_top h
    generalize c (dl c - 1) = z at h9
    omega
theorem sp_pneg {p : Nat} {c : Nat → Int} {σ : CS} {Q : CS → Prop} (h : Pl σ p c) (hQ : ∀ σ', Pl σ' p (fun i => -(c i)) → Cg σ σ' (inP p) (fun _ => False) → Q σ') : wpX2_negate p σ Q := by
  have ht := tlen_le p
  have hlen := h.len
  show ∃ n, lq2 (wbX2_negate_2 p Q) n (0 : Int32) σ
  refine lq2_i (I := fun a τ => ∃ k, k ≤ dl c ∧ a = nI k ∧ (∀ i, i < tlen p → RpW τ (16 * p + i) (if i < k then -(c i) else c i)) ∧ Cg σ τ (inP p) (fun _ => False)) (μ := fun a _ => dl c - a.toNatClampNeg) ?_ _ _ ⟨0, by omega, rfl, fun i hi => by rw [if_neg (by omega)]; exact h.1 i hi, Cg.refl _ _ _⟩
  rintro N a τ ⟨k, hk, rfl, hR, hC⟩ hN
  unfold wbX2_negate_2
  have hdl := dl_le c
  rw [hC.2.1 p (fun z => z), h.2.2, deg_lt hdl (by omega), nI_clamp (by omega)]
  refine ⟨fun hh => ?_, fun hh => ⟨pk_in k _ (by omega), ?_⟩⟩
  · have : k = dl c := by omega
    subst this
    refine hQ τ ⟨fun i hi => ?_, fun i hi => ?_, ?_⟩ hC
    · have := hR i hi
      show RpW τ _ (-(c i))
      by_cases e : i < dl c
      · rw [if_pos e] at this
        exact this
      · rw [if_neg e, h.zero (by omega)] at this
        rw [h.zero (by omega)]
        exact this
    · show -(c i) = 0
      rw [h.2.1 i hi]
      rfl
    · rw [dl_neg, hC.2.1 p (fun z => z)]
      exact h.2.2
  · have hr0 := hR k (by omega)
    rw [if_neg (by omega)] at hr0
    refine sp_negate hr0 (fun τ2 hr hc a4 ha4 => ?_)
    rw [nI_1] at ha4
    subst ha4
    refine hN _ _ ⟨k + 1, by omega, rfl, fun i hi => ?_, hC.trans (hc.p (by omega))⟩ ?_
    · by_cases e : i = k
      · subst e
        rw [if_pos (by omega)]
        exact hr
      · have := (hR i hi).ch hc (by omega)
        by_cases e2 : i < k
        · rw [if_pos e2] at this
          rw [if_pos (by omega)]
          exact this
        · rw [if_neg e2] at this
          rw [if_neg (by omega)]
          exact this
    · show dl c - (nI (k + 1)).toNatClampNeg < dl c - (nI k).toNatClampNeg
      rw [nI_clamp (by omega), nI_clamp (by omega)]
      omega
/-- the leading coefficient (0 of 0) -/
def lc (c : Nat → Int) : Int := if dl c = 0 then 0 else c (dl c - 1)
theorem lc_ne {c : Nat → Int} (h : dl c ≠ 0) : lc c ≠ 0 := by
  unfold lc
  rw [if_neg h]
  exact ln_top h
theorem sp_leadSign {p : Nat} {c : Nat → Int} {σ : CS} {Q : Int32 → CS → Prop} (h : Pl σ p c) (hQ : Q (sg32 (lc c)) σ) : wpX2_leadSign p σ Q := by
  have ht := tlen_le p
  have hlen := h.len
  have hdl := dl_le c
  show wpX2_leadSign_0 p Q σ
  unfold wpX2_leadSign_0
  unfold lc at hQ
  rw [h.2.2, deg_nn hdl]
  refine ⟨fun hh => ?_, fun hh => ?_⟩
  · rw [if_neg hh] at hQ
    rw [deg_s hh, nI_clamp (by omega), (h.1 (dl c - 1) (by omega)).sg]
    exact ⟨pk_in (dl c - 1) _ (by omega), hQ⟩
  · rw [if_pos (by omega)] at hQ
    exact hQ
theorem sp_signBeyond {p : Nat} {y1 : Int64} {c : Nat → Int} {σ : CS} {Q : Int32 → CS → Prop} (h : Pl σ p c) (hQ : Q (if y1.toInt < 0 ∧ dl c % 2 = 0 then -(sg32 (lc c)) else sg32 (lc c)) σ) : wpX2_signBeyond p y1 σ Q := by
  have hdl := dl_le c
  have hodd : (nI (dl c) - 1 - (nI (dl c) - 1) / 2 * 2 = 0) ↔ ¬ (dl c % 2 = 0) := by
    rcases (show dl c = 0 ∨ dl c = 1 ∨ dl c = 2 ∨ dl c = 3 ∨ dl c = 4 ∨ dl c = 5 ∨ dl c = 6 ∨ dl c = 7 ∨ dl c = 8 ∨ dl c = 9 by omega) with e | e | e | e | e | e | e | e | e | e <;> rw [e] <;> decide
  show wpX2_signBeyond_0 p y1 Q σ
  unfold wpX2_signBeyond_0 wpX2_signBeyond_23
  rw [lg_cmp_ge, Int64.le_iff_toInt_le, h.2.2, hodd]
  refine ⟨fun hh => ?_, fun hh => ⟨fun h2 => ?_, fun h2 => ?_⟩⟩
  · have : (0 : Int) ≤ y1.toInt := hh
    rw [if_neg (by omega)] at hQ
    exact sp_leadSign h hQ
  · rw [if_neg (fun h3 => h2 h3.2)] at hQ
    exact sp_leadSign h hQ
  · have h3 : ¬ (0 : Int) ≤ y1.toInt := hh
    rw [if_pos ⟨by omega, by omega⟩] at hQ
    exact sp_leadSign h hQ
theorem rp_size_le {σ : CS} {w k : Nat} {x : Int} (h : RpW σ w x) (hk : k < 1000) : cS σ w ≤ nI k ↔ x.natAbs < 2147483648 ^ k := by
  obtain ⟨n, h1, h2, h3, h4, h5, h6⟩ := h
  have := capW_le w
  rw [h2, nI_leI (by omega) (by omega), h5]
  constructor
  · intro hn
    exact Nat.lt_of_lt_of_le (mag_lt _ _) (pow_mono hn)
  · intro hn
    exact rp_size h3 h4 hn
theorem sp_fits {p : Nat} {c : Nat → Int} {σ : CS} {Q : Int32 → CS → Prop} (h : Pl σ p c) (hQ : ∀ r : Int32, (r = 1 ∧ (∀ i, (c i).natAbs < 2147483648 ^ 6)) ∨ (r = 0 ∧ ∃ i, i < 9 ∧ ¬ (c i).natAbs < 2147483648 ^ 6) → Q r σ) : wpX2_fits p σ Q := by
  have ht := tlen_le p
  have hlen := h.len
  have hdl := dl_le c
  show ∃ n, lq2 (wbX2_fits_2 p Q) n (0 : Int32) σ
  refine lq2_i (I := fun a τ => τ = σ ∧ ∃ k, k ≤ dl c ∧ a = nI k ∧ (∀ i, i < k → (c i).natAbs < 2147483648 ^ 6)) (μ := fun a _ => dl c - a.toNatClampNeg) ?_ _ _ ⟨rfl, 0, by omega, rfl, fun i hi => absurd hi (by omega)⟩
  rintro N a τ ⟨rfl, k, hk, rfl, hR⟩ hN
  unfold wbX2_fits_2 wpX2_fits_30
  rw [h.2.2, deg_lt hdl (by omega), nI_clamp (by omega)]
  refine ⟨fun hh => ?_, fun hh => pk_lt 8 k (fun h3 => absurd h3 (by omega)) (fun h3 => ⟨pk_in k _ (by omega), ?_⟩) rfl rfl (by omega) (by omega)⟩
  · have : k = dl c := by omega
    subst this
    refine hQ 1 (Or.inl ⟨rfl, fun i => ?_⟩)
    rcases Nat.lt_or_ge i (dl c) with e | e
    · exact hR i e
    · rw [h.zero e]
      decide
  · rw [show (6 : Int32) = nI 6 from rfl, rp_size_le (k := 6) (h.1 k (by omega)) (by omega)]
    refine ⟨fun h4 a2 ha2 => ?_, fun h4 => hQ 0 (Or.inr ⟨rfl, k, by omega, h4⟩)⟩
    rw [nI_1] at ha2
    subst ha2
    refine hN _ _ ⟨rfl, k + 1, by omega, rfl, fun i hi => ?_⟩ ?_
    · rcases Nat.eq_or_lt_of_le (Nat.le_of_lt_succ hi) with e | e
      · rw [e]; exact h4
      · exact hR i e
    · show dl c - (nI (k + 1)).toNatClampNeg < dl c - (nI k).toNatClampNeg
      rw [nI_clamp (by omega), nI_clamp (by omega)]
      omega
theorem sp_pisLike {p0 p1 : Nat} {c d : Nat → Int} {σ : CS} {Q : Int32 → CS → Prop} (h0 : Pl σ p0 c) (h1 : Pl σ p1 d) (hQ : ∀ r : Int32, (r = 1 ∧ c = d) ∨ (r = 0 ∧ c ≠ d) → Q r σ) : wpX2_isLike p0 p1 σ Q := by
  have ht0 := tlen_le p0
  have ht1 := tlen_le p1
  have hl0 := h0.len
  have hl1 := h1.len
  have hd0 := dl_le c
  have hd1 := dl_le d
  show wpX2_isLike_0 p0 p1 Q σ
  unfold wpX2_isLike_0
  rw [h0.2.2, h1.2.2, deg_inj hd0 hd1]
  refine ⟨fun he => ?_, fun he => hQ 0 (Or.inr ⟨rfl, fun e => he (by rw [e])⟩)⟩
  refine lq2_i (I := fun a τ => τ = σ ∧ ∃ k, k ≤ dl c ∧ a = nI k ∧ (∀ i, i < k → c i = d i)) (μ := fun a _ => dl c - a.toNatClampNeg) ?_ _ _ ⟨rfl, 0, by omega, rfl, fun i hi => absurd hi (by omega)⟩
  rintro N a τ ⟨rfl, k, hk, rfl, hR⟩ hN
  unfold wbX2_isLike_15
  rw [h0.2.2, deg_lt hd0 (by omega), nI_clamp (by omega)]
  refine ⟨fun hh => ?_, fun hh => ⟨pk_in k _ (by omega), pk_in k _ (by omega), sp_isLike (h0.1 k (by omega)) (h1.1 k (by omega)) ⟨fun h4 a5 ha5 => ?_, fun h4 => ?_⟩⟩⟩
  · refine hQ 1 (Or.inl ⟨rfl, ?_⟩)
    funext i
    rcases Nat.lt_or_ge i (dl c) with e | e
    · exact hR i (by omega)
    · rw [h0.zero e, h1.zero (by omega)]
  · have h5 : c k = d k := by
      rcases Decidable.em (c k = d k) with h6 | h6
      · exact h6
      · rw [if_neg h6] at h4
        exact absurd rfl h4
    rw [nI_1] at ha5
    subst ha5
    refine hN _ _ ⟨rfl, k + 1, by omega, rfl, fun i hi => ?_⟩ ?_
    · rcases Nat.eq_or_lt_of_le (Nat.le_of_lt_succ hi) with e | e
      · rw [e]; exact h5
      · exact hR i e
    · show dl c - (nI (k + 1)).toNatClampNeg < dl c - (nI k).toNatClampNeg
      rw [nI_clamp (by omega), nI_clamp (by omega)]
      omega
  · refine hQ 0 (Or.inr ⟨rfl, fun e => ?_⟩)
    rw [if_pos (by rw [e])] at h4
    exact absurd h4 (by decide)
