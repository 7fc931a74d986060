/-! PURE: numberOfLeadingZeros, guess -/
theorem jushrN {n s : Nat} (hn : n < 4294967296) (hs : s < 32) : jushr (nI n) (nI s) = nI (n / 2 ^ s) := pk_ushrN (by omega) _ _ (s_uB _ hs)
theorem nI_subN {a : Nat} (s : Nat) (z : Int32) (hz : z = -nI s) (h : s ≤ a) : nI a + z = nI (a - s) := by
  rw [hz, ← Int32.sub_eq_add_neg]
  exact pk_sub h
theorem pw2 {r k s : Nat} (h : k + s ≤ r) : 2 ^ (r - k) = 2 ^ (r - s - k) * 2 ^ s := by
  rw [← Nat.pow_add]
  congr 1
  omega
section NLZ
variable {σ : CS} {Q : Int32 → CS → Prop}
theorem nlz_73 {a r : Nat} (h0 : 0 < a) (h4 : a < 4) (hr : a < 2 ^ r) (hr1 : 1 ≤ r) (hr2 : r ≤ 31) (hQ : ∀ k, 1 ≤ k → k ≤ r → 2 ^ (r - k) ≤ a → a < 2 ^ (r + 1 - k) → Q (nI k) σ) : wpJ6_numberOfLeadingZeros_0f7a4_73 Q (nI a) (nI r) σ := by
  unfold wpJ6_numberOfLeadingZeros_0f7a4_73
  have e : jushr (nI a) (1 : Int32) = nI (a / 2 ^ 1) := jushrN (s := 1) (by omega) (by omega)
  rw [e]
  rcases (show a = 1 ∨ a = 2 ∨ a = 3 by omega) with rfl | rfl | rfl
  · rw [show nI r - nI (1 / 2 ^ 1) = nI r from pk_sub (b := 0) (by omega)]
    exact hQ r hr1 (Nat.le_refl _) (by rw [Nat.sub_self]; decide) (by rw [show r + 1 - r = 1 by omega]; decide)
  · have hr3 : 2 ≤ r := by
      rcases Nat.lt_or_ge r 2 with h | h
      · have : r = 1 := by omega
        subst this
        exact absurd hr (by decide)
      · exact h
    rw [show nI r - nI (2 / 2 ^ 1) = nI (r - 1) from pk_sub (b := 1) (by omega)]
    exact hQ (r - 1) (by omega) (by omega) (by rw [show r - (r - 1) = 1 by omega]; decide) (by rw [show r + 1 - (r - 1) = 2 by omega]; decide)
  · have hr3 : 2 ≤ r := by
      rcases Nat.lt_or_ge r 2 with h | h
      · have : r = 1 := by omega
        subst this
        exact absurd hr (by decide)
      · exact h
    rw [show nI r - nI (3 / 2 ^ 1) = nI (r - 1) from pk_sub (b := 1) (by omega)]
    exact hQ (r - 1) (by omega) (by omega) (by rw [show r - (r - 1) = 1 by omega]; decide) (by rw [show r + 1 - (r - 1) = 2 by omega]; decide)
/-- what a shift by s does to the bounds -/
theorem nlz_sh {a r s : Nat} (hs : 1 ≤ s) (ha : 2 ^ s ≤ a) (hr : a < 2 ^ r) : s < r ∧ a / 2 ^ s < 2 ^ (r - s) ∧ 0 < a / 2 ^ s ∧ ∀ k, k ≤ r - s → 2 ^ (r - s - k) ≤ a / 2 ^ s → a / 2 ^ s < 2 ^ (r - s + 1 - k) → 2 ^ (r - k) ≤ a ∧ a < 2 ^ (r + 1 - k) := by
  have h1 : s < r := by
    rcases Nat.lt_or_ge s r with h | h
    · exact h
    · have := Nat.pow_le_pow_right (show 0 < 2 by omega) h
      omega
  have hp : 0 < 2 ^ s := Nat.two_pow_pos s
  refine ⟨h1, ?_, Nat.div_pos ha hp, fun k hk h2 h3 => ?_⟩
  · rw [Nat.div_lt_iff_lt_mul hp, ← Nat.pow_add, show r - s + s = r by omega]
    exact hr
  · rw [Nat.le_div_iff_mul_le hp, ← Nat.pow_add, show r - s - k + s = r - k by omega] at h2
    rw [Nat.div_lt_iff_lt_mul hp, ← Nat.pow_add, show r - s + 1 - k + s = r + 1 - k by omega] at h3
    exact ⟨h2, h3⟩
theorem nlz_61 {a r : Nat} (h0 : 0 < a) (h4 : a < 16) (hr : a < 2 ^ r) (hr1 : 1 ≤ r) (hr2 : r ≤ 31) (hQ : ∀ k, 1 ≤ k → k ≤ r → 2 ^ (r - k) ≤ a → a < 2 ^ (r + 1 - k) → Q (nI k) σ) : wpJ6_numberOfLeadingZeros_0f7a4_61 Q (nI a) (nI r) σ := by
  unfold wpJ6_numberOfLeadingZeros_0f7a4_61
  refine pk_lt a 4 (fun h => nlz_73 h0 h hr hr1 hr2 hQ) (fun h a1 ha1 a2 ha2 => ?_) rfl rfl (by omega) (by omega)
  obtain ⟨g1, g2, g3, g4⟩ := nlz_sh (s := 2) (by omega) h hr
  rw [ha1, ha2, nI_subN 2 (-2) (by decide) (by omega), show jushr (nI a) (2 : Int32) = nI (a / 2 ^ 2) from jushrN (s := 2) (by omega) (by omega)]
  exact nlz_73 g3 (by omega) g2 (by omega) (by omega) (fun k k1 k2 k3 k4 => hQ k k1 (by omega) (g4 k k2 k3 k4).1 (g4 k k2 k3 k4).2)
theorem nlz_48 {a r : Nat} (h0 : 0 < a) (h4 : a < 256) (hr : a < 2 ^ r) (hr1 : 1 ≤ r) (hr2 : r ≤ 31) (hQ : ∀ k, 1 ≤ k → k ≤ r → 2 ^ (r - k) ≤ a → a < 2 ^ (r + 1 - k) → Q (nI k) σ) : wpJ6_numberOfLeadingZeros_0f7a4_48 Q (nI a) (nI r) σ := by
  unfold wpJ6_numberOfLeadingZeros_0f7a4_48
  refine pk_lt a 16 (fun h => nlz_61 h0 h hr hr1 hr2 hQ) (fun h a1 ha1 a2 ha2 => ?_) rfl rfl (by omega) (by omega)
  obtain ⟨g1, g2, g3, g4⟩ := nlz_sh (s := 4) (by omega) h hr
  rw [ha1, ha2, nI_subN 4 (-4) (by decide) (by omega), show jushr (nI a) (4 : Int32) = nI (a / 2 ^ 4) from jushrN (s := 4) (by omega) (by omega)]
  exact nlz_61 g3 (by omega) g2 (by omega) (by omega) (fun k k1 k2 k3 k4 => hQ k k1 (by omega) (g4 k k2 k3 k4).1 (g4 k k2 k3 k4).2)
theorem nlz_33 {a r : Nat} (h0 : 0 < a) (h4 : a < 65536) (hr : a < 2 ^ r) (hr1 : 1 ≤ r) (hr2 : r ≤ 31) (hQ : ∀ k, 1 ≤ k → k ≤ r → 2 ^ (r - k) ≤ a → a < 2 ^ (r + 1 - k) → Q (nI k) σ) : wpJ6_numberOfLeadingZeros_0f7a4_33 Q (nI a) (nI r) σ := by
  unfold wpJ6_numberOfLeadingZeros_0f7a4_33
  refine pk_lt a 256 (fun h => nlz_48 h0 h hr hr1 hr2 hQ) (fun h a1 ha1 a2 ha2 => ?_) rfl rfl (by omega) (by omega)
  obtain ⟨g1, g2, g3, g4⟩ := nlz_sh (s := 8) (by omega) h hr
  rw [ha1, ha2, nI_subN 8 (-8) (by decide) (by omega), show jushr (nI a) (8 : Int32) = nI (a / 2 ^ 8) from jushrN (s := 8) (by omega) (by omega)]
  exact nlz_48 g3 (by omega) g2 (by omega) (by omega) (fun k k1 k2 k3 k4 => hQ k k1 (by omega) (g4 k k2 k3 k4).1 (g4 k k2 k3 k4).2)
theorem sp_nlz {a : Nat} (h0 : 0 < a) (h31 : a < 2147483648) (hQ : ∀ k, 1 ≤ k → k ≤ 31 → 2 ^ (31 - k) ≤ a → a < 2 ^ (32 - k) → Q (nI k) σ) : wpJ6_numberOfLeadingZeros_0f7a4 (nI a) σ Q := by
  show wpJ6_numberOfLeadingZeros_0f7a4_0 Q (nI a) σ
  unfold wpJ6_numberOfLeadingZeros_0f7a4_0
  refine pk_lt 0 a (fun _ => pk_lt a 65536 (fun h => nlz_33 h0 h (r := 31) h31 (by omega) (by omega) hQ) (fun h a1 ha1 a2 ha2 => ?_) rfl rfl (by omega) (by omega)) (fun h => absurd h0 (by omega)) nI_0.symm rfl (by omega) (by omega)
  obtain ⟨g1, g2, g3, g4⟩ := nlz_sh (r := 31) (s := 16) (by omega) h h31
  rw [ha1, ha2, show (31 : Int32) + -16 = nI (31 - 16) by decide, show jushr (nI a) (16 : Int32) = nI (a / 2 ^ 16) from jushrN (s := 16) (by omega) (by omega)]
  exact nlz_33 g3 (by omega) g2 (by omega) (by omega) (fun k k1 k2 k3 k4 => hQ k k1 (by omega) (g4 k k2 k3 k4).1 (g4 k k2 k3 k4).2)
end NLZ
theorem lg_gt {x y : Int64} : 0 < lg_cmp x y ↔ y < x := by
  unfold lg_cmp
  by_cases h : x > y
  · rw [if_pos h]
    exact ⟨fun _ => h, fun _ => by decide⟩
  · rw [if_neg h]
    constructor
    · intro h1
      by_cases h2 : x = y
      · rw [if_pos h2] at h1; exact absurd h1 (by decide)
      · rw [if_neg h2] at h1; exact absurd h1 (by decide)
    · intro h1
      exact absurd h1 h
theorem lor31 {a b : Nat} (ha : a < 2147483648) (hb : b < 2147483648) : jlshl (lN a) (31 : Int32) ||| lN b = lN (a * 2147483648 + b) := by
  have e : jlshl (lN a) (31 : Int32) = lN (a * 2 ^ 31) := wb_shl a (k := 31) (by decide)
  rw [e, wb_or (by omega) (by omega), Nat.mul_comm a, ← Nat.two_pow_add_eq_or_of_lt (show b < 2 ^ 31 by omega)]
theorem gs_aux {t v1 v2 ρ nx B : Nat} (h : ρ * B + nx < t * v2) : (ρ + t * v1) * B + nx < t * (v1 * B + v2) := by
  have h1 : t * (v1 * B + v2) = t * v1 * B + t * v2 := by grind
  have h2 : (ρ + t * v1) * B = ρ * B + t * v1 * B := by grind
  omega
theorem sp_guess {U nx v1 v2 : Nat} {σ : CS} {Q : Int64 → CS → Prop} (hU : U < 4611686018427387904) (hnx : nx < 2147483648) (hv1 : 1073741824 ≤ v1) (hv1' : v1 < 2147483648) (hv2 : v2 < 2147483648)
    (hQ : ∀ t, t < 2147483648 → t * (v1 * 2147483648 + v2) ≤ U * 2147483648 + nx → (t + 1 = 2147483648 ∨ U * 2147483648 + nx < (t + 1) * (v1 * 2147483648 + v2)) → Q (lN t) σ) : wpX3_guess (lN U) (lN nx) (lN v1) (lN v2) σ Q := by
  show wpX3_guess_0 (lN U) (lN nx) (lN v1) (lN v2) Q σ
  unfold wpX3_guess_0
  rw [lg_gt, ← lN_0, pk_lLT (by omega) (by omega)]
  refine ⟨fun _ => ⟨fun h => absurd ((lN_inj0 (by omega)).mp h) (by omega), fun b4 hb4 b5 hb5 => ?_⟩, fun h => absurd (by omega) h⟩
  obtain ⟨t, ht, htB, htU, htm⟩ : ∃ t, b4 = lN t ∧ t < 2147483648 ∧ t * v1 ≤ U ∧ (t + 1 = 2147483648 ∨ U < (t + 1) * v1) := by
    rw [pk_lDiv (by omega) (by omega) (by omega), show (2147483647 : Int64) = lN 2147483647 from rfl] at hb4
    have hlt : U / v1 < 9223372036854775808 := Nat.lt_of_le_of_lt (Nat.div_le_self _ _) (by omega)
    have hdm := Nat.div_mul_le_self U v1
    by_cases h : 2147483647 < U / v1
    · rw [if_pos ((pk_lLT (a := 2147483647) (by omega) hlt).mpr h)] at hb4
      refine ⟨2147483647, hb4, by omega, ?_, Or.inl rfl⟩
      exact Nat.le_trans (Nat.mul_le_mul_right v1 (Nat.le_of_lt h)) hdm
    · rw [if_neg (fun q => h ((pk_lLT (a := 2147483647) (by omega) hlt).mp q))] at hb4
      refine ⟨U / v1, hb4, by omega, hdm, Or.inr ?_⟩
      rw [Nat.mul_comm]
      exact Nat.lt_mul_div_succ U (by omega)
  subst ht
  have hb5' : b5 = lN (U - t * v1) := by
    rw [hb5, lN_mul, lN_sub htU]
  subst hb5'
  refine lq4_i (I := fun l8 l10 i12 τ => τ = σ ∧ ∃ t ρ k, l8 = lN t ∧ l10 = lN ρ ∧ i12 = nI k ∧ k ≤ 2 ∧ t < 2147483648 ∧ ρ + t * v1 = U ∧ k * v1 ≤ ρ ∧ (t + 1 = 2147483648 ∨ U * 2147483648 + nx < (t + 1) * (v1 * 2147483648 + v2))) (μ := fun _ _ i12 _ => 2 - i12.toNatClampNeg) ?_ _ _ _ _ ⟨rfl, t, U - t * v1, 0, rfl, rfl, rfl, by omega, htB, by omega, by omega, ?_⟩
  · rintro N l8 l10 i12 τ ⟨rfl, t, ρ, k, rfl, rfl, rfl, hk, htB, hsum, hkr, hmax⟩ hN
    have hρ : ρ ≤ U := by omega
    have hfin : 2147483648 ≤ ρ → Q (lN t) τ := by
      intro h
      refine hQ t htB ?_ hmax
      have h1 : t * v2 ≤ 2147483648 * 2147483648 := Nat.mul_le_mul (by omega) (by omega)
      have h2 : 2147483648 * 2147483648 ≤ ρ * 2147483648 := Nat.mul_le_mul_right _ h
      have h3 : t * (v1 * 2147483648 + v2) = t * v1 * 2147483648 + t * v2 := by grind
      omega
    unfold wbX3_guess_33 wpX3_guess_86
    refine pk_le 2 k (fun h => ?_) (fun h => ?_) rfl rfl (by omega) (by omega)
    · refine hfin ?_
      have : k = 2 := by omega
      subst this
      omega
    · rw [lg_gt, show (2147483647 : Int64) = lN 2147483647 from rfl, pk_lLT (by omega) (by omega)]
      refine ⟨fun h2 => hfin (by omega), fun h2 => ?_⟩
      have htv : t * v2 ≤ 2147483647 * 2147483647 := Nat.mul_le_mul (by omega) (by omega)
      rw [lor31 (by omega) hnx, lN_mul, lg_gt, pk_lLT (by omega) (by omega)]
      refine ⟨fun h3 b1 hb1 b2 hb2 a3 ha3 => ?_, fun h3 => ?_⟩
      · have ht1 : 1 ≤ t := by
          rcases Nat.eq_zero_or_pos t with e | e
          · subst e
            omega
          · exact e
        have e1 : lN t - (1 : Int64) = lN (t - 1) := lN_sub (b := 1) ht1
        rw [hb1, hb2, ha3, e1, lN_add, nI_1]
        obtain ⟨t', rfl⟩ : ∃ t', t = t' + 1 := ⟨t - 1, by omega⟩
        rw [Nat.add_sub_cancel]
        refine hN _ _ _ _ ⟨rfl, t', ρ + v1, k + 1, rfl, rfl, rfl, by omega, by omega, ?_, ?_, Or.inr ?_⟩ ?_
        · rw [← hsum, Nat.succ_mul, Nat.add_assoc, Nat.add_comm v1]
        · rw [Nat.succ_mul]
          exact Nat.add_le_add_right hkr v1
        · rw [← hsum]
          exact gs_aux h3
        · show 2 - (nI (k + 1)).toNatClampNeg < 2 - (nI k).toNatClampNeg
          rw [nI_clamp (by omega), nI_clamp (by omega)]
          omega
      · refine hQ t htB ?_ hmax
        have h4 : t * (v1 * 2147483648 + v2) = t * v1 * 2147483648 + t * v2 := by grind
        omega
  · rcases htm with h | h
    · exact Or.inl h
    · refine Or.inr ?_
      have h4 : (t + 1) * (v1 * 2147483648 + v2) = (t + 1) * v1 * 2147483648 + (t + 1) * v2 := by grind
      have h5 : (U + 1) * 2147483648 ≤ (t + 1) * v1 * 2147483648 := Nat.mul_le_mul_right _ h
      omega
