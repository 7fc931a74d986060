/-! PURE: product -/
theorem mag_set {F : Nat → Int32} {m e r : Nat} (hm : m < e) (hr : r < 2147483648) : mag (upd F m (nI r)) e + dg F m * 2147483648 ^ m = mag F e + r * 2147483648 ^ m := by
  induction e with
  | zero => omega
  | succ e ih =>
    rw [mag_s, mag_s]
    rcases Nat.eq_or_lt_of_le (Nat.le_of_lt_succ hm) with h | h
    · subst h
      rw [dg_nI (d := r) (upd_e _ _ _) hr, mag_congr (g := F) (fun i hi => upd_n (by omega))]
      omega
    · have h1 := ih h
      have h2 : dg (upd F m (nI r)) e = dg F e := by unfold dg; rw [upd_n (by omega)]
      rw [h2]
      omega
theorem okd_set {F : Nat → Int32} {m e r : Nat} (ho : okd F e) (hr : r < 2147483648) : okd (upd F m (nI r)) e := by
  refine okd_of (fun i hi => ?_)
  by_cases h : i = m
  · subst h
    exact ⟨r, hr, upd_e _ _ _⟩
  · exact ⟨dg F i, dg_lt F i, by rw [upd_n h]; exact ho i hi⟩
theorem sp_fill {w e : Nat} {σ : CS} {Q : CS → Prop} (he : e ≤ capW w) (hQ : ∀ σ', (∀ j, j < e → cF σ' w j = 0) → Ch σ σ' (fun z => z = w) → cS σ' w = cS σ w → cG σ' w = cG σ w → Q σ') : wpJ7_fill_fda19 w 0 (nI e) 0 σ Q := by
  have hcap := capW_le w
  show wpJ7_rangeCheck_23922_0 (nI (capW w)) 0 (nI e) (fun σ3 => ∃ n, lq2 (wbJ7_fill_fda19_10 w 0 (nI e) 0 Q) n 0 σ3) σ
  unfold wpJ7_rangeCheck_23922_0
  refine pk_le 0 e (fun _ => ⟨fun _ => pk_le e (capW w) (fun _ => ?_) (fun h => absurd h (by omega)) rfl rfl (by omega) (by omega), fun h => absurd (by decide) h⟩) (fun h => absurd h (by omega)) nI_0.symm rfl (by omega) (by omega)
  refine lq2_i (I := fun i4 τ => ∃ k, i4 = nI k ∧ k ≤ e ∧ (∀ j, j < k → cF τ w j = 0) ∧ Ch σ τ (fun z => z = w) ∧ cS τ w = cS σ w ∧ cG τ w = cG σ w) (μ := fun i4 _ => e - i4.toNatClampNeg) ?_ _ _ ⟨0, rfl, by omega, fun j hj => absurd hj (by omega), Ch.refl σ _, rfl, rfl⟩
  rintro N i4 τ ⟨k, rfl, hk, h0, hC, hS, hG⟩ hN
  unfold wbJ7_fill_fda19_10
  refine pk_le e k (fun h => ?_) (fun h => ⟨pk_in k _ (by omega), fun a1 ha1 => ?_⟩) rfl rfl (by omega) (by omega)
  · have : k = e := by omega
    subst this
    exact hQ τ h0 hC hS hG
  · rw [nI_1] at ha1
    subst ha1
    refine hN _ _ ⟨k + 1, rfl, by omega, fun j hj => ?_, Ch1.sFi hC _ _, by rw [cS_sFi]; exact hS, by rw [cG_sFi]; exact hG⟩ ?_
    · rw [cF_sFi, nI_clamp (by omega)]
      by_cases e1 : j = k
      · subst e1
        exact upd_e _ _ _
      · rw [upd_n e1]
        exact h0 j (by omega)
    · show e - (nI (k + 1)).toNatClampNeg < e - (nI k).toNatClampNeg
      rw [nI_clamp (by omega), nI_clamp (by omega)]
      omega
theorem mag_zero {F : Nat → Int32} {n : Nat} (h : ∀ j, j < n → F j = 0) : mag F n = 0 := by
  induction n with
  | zero => rfl
  | succ n ih =>
    rw [mag_s, ih (fun j hj => h j (by omega)), dg_nI (d := 0) (by rw [h n (by omega)]; exact nI_0.symm) (by omega)]
    omega
theorem okd_zero {F : Nat → Int32} {n : Nat} (h : ∀ j, j < n → F j = 0) : okd F n := okd_of (fun i hi => ⟨0, by omega, by rw [h i hi]; exact nI_0.symm⟩)
theorem sg32_mul (x y : Int) : sg32 x * sg32 y = sg32 (x * y) := by
  rcases Int.lt_trichotomy x 0 with a | a | a <;> rcases Int.lt_trichotomy y 0 with b | b | b
  · rw [sg32_lt a, sg32_lt b, sg32_pos (Int.mul_pos_of_neg_of_neg a b)]; rfl
  · rw [b, Int.mul_zero, sg32_0, Int32.mul_zero]
  · rw [sg32_lt a, sg32_pos b, sg32_lt (Int.mul_neg_of_neg_of_pos a b)]; rfl
  · rw [a, Int.zero_mul, sg32_0, Int32.zero_mul]
  · rw [a, Int.zero_mul, sg32_0, Int32.zero_mul]
  · rw [a, Int.zero_mul, sg32_0, Int32.zero_mul]
  · rw [sg32_pos a, sg32_lt b, sg32_lt (Int.mul_neg_of_pos_of_neg a b)]; rfl
  · rw [b, Int.mul_zero, sg32_0, Int32.mul_zero]
  · rw [sg32_pos a, sg32_pos b, sg32_pos (Int.mul_pos a b)]; rfl
set_option maxHeartbeats 1000000 in
theorem sp_product {w0 w1 w2 a b : Nat} {σ : CS} {x y : Int} {Q : CS → Prop} (h01 : w0 ≠ w1) (h02 : w0 ≠ w2) (hx : RpW σ w1 x) (hy : RpW σ w2 y) (hxa : x.natAbs < 2147483648 ^ a) (hyb : y.natAbs < 2147483648 ^ b) (hab : a + b ≤ capW w0)
    (hQ : ∀ σ', RpW σ' w0 (x * y) → Ch σ σ' (fun z => z = w0) → Q σ') : wpX3_product w0 w1 w2 σ Q := by
  obtain ⟨n1, ⟨r1, r2, r3⟩, t1, m1, s1⟩ := hx.raw
  obtain ⟨n2, ⟨u1, u2, u3⟩, t2, m2, s2⟩ := hy.raw
  have hn1 : n1 ≤ a := rp_size r3 t1 (by rw [← m1]; exact hxa)
  have hn2 : n2 ≤ b := rp_size u3 t2 (by rw [← m2]; exact hyb)
  have hc0 := capW_le w0
  have hc1 := capW_le w1
  have hc2 := capW_le w2
  show wpX3_product_0 w0 w1 w2 Q σ
  unfold wpX3_product_0
  intro a8 ha8
  rw [r1, u1, nI_add, ofN, cap_min (show n1 + n2 ≤ capW w0 by omega) hc0] at ha8
  subst ha8
  refine sp_fill (by omega) (fun σ1 hz hC1 hS1 hG1 => ?_)
  refine lq3_i (I := fun i3 i4 τ => ∃ k, i3 = nI (n1 + n2) ∧ i4 = nI k ∧ k ≤ n1 ∧ okd (cF τ w0) (n1 + n2) ∧ (∀ j, k + n2 ≤ j → j < n1 + n2 → cF τ w0 j = 0) ∧ mag (cF τ w0) (n1 + n2) = mag (cF σ w1) k * y.natAbs ∧ Ch σ τ (fun z => z = w0)) (μ := fun _ i4 _ => n1 - i4.toNatClampNeg) ?_ _ _ _ ⟨0, rfl, rfl, by omega, okd_zero hz, fun j _ hj => hz j hj, by rw [mag_zero hz]; show 0 = 0 * _; omega, hC1⟩
  rintro N i3 i4 τ ⟨k, rfl, rfl, hk, hFo, hF0, hsum, hC⟩ hN
  obtain ⟨c1, c2, c3⟩ := hC.1 w1 (fun e => h01 e.symm)
  obtain ⟨d1, d2, d3⟩ := hC.1 w2 (fun e => h02 e.symm)
  unfold wbX3_product_31
  rw [c2, r1]
  refine pk_le n1 k (fun h => ?_) (fun h => ⟨pk_in k _ (by omega), fun b7 hb7 => ?_⟩) rfl rfl (by omega) (by omega)
  · have hke : k = n1 := by omega
    subst hke
    have eG : cG (sS τ w0 (nI (k + n2))) w1 * cG (sS τ w0 (nI (k + n2))) w2 = sg32 (x * y) := by
      rw [cG_sS, cG_sS, c3, d3, s1, s2, sg32_mul]
    rw [eG]
    refine sp_trimR (n := k + n2) (x := x * y) (by rw [cS_sG, cS_sS]) (by omega) ?_ ?_ (fun _ => by rw [cG_sG]) (fun σ' hr hc' _ => hQ σ' hr ((Ch1.sG (Ch1.sS hC _) _).trans hc'))
    · rw [cF_sG, cF_sS]; exact hFo
    · rw [cF_sG, cF_sS, hsum, Int.natAbs_mul, m1]
  · rw [c1, nI_clamp (by omega), r3 k h, nI_l (by have := dg_lt (cF σ w1) k; omega)] at hb7
    subst hb7
    have hdk := dg_lt (cF σ w1) k
    refine lq6_i (I := fun i3 i4 l5 l7 i9 τ2 => ∃ j c, i3 = nI (n1 + n2) ∧ i4 = nI k ∧ l5 = lN (dg (cF σ w1) k) ∧ l7 = lN c ∧ i9 = nI j ∧ j ≤ n2 ∧ c < 2147483648 ∧ okd (cF τ2 w0) (n1 + n2) ∧ (∀ i, k + n2 ≤ i → i < n1 + n2 → cF τ2 w0 i = 0) ∧ mag (cF τ2 w0) (n1 + n2) + c * 2147483648 ^ (k + j) = mag (cF σ w1) k * y.natAbs + dg (cF σ w1) k * mag (cF σ w2) j * 2147483648 ^ k ∧ Ch σ τ2 (fun z => z = w0)) (μ := fun _ _ _ _ i9 _ => n2 - i9.toNatClampNeg) ?_ _ _ _ _ _ _ ⟨0, 0, rfl, rfl, rfl, rfl, rfl, by omega, by omega, hFo, hF0, ?_, hC⟩
    · rintro N2 i3 i4 l5 l7 i9 τ2 ⟨j, c, rfl, rfl, rfl, rfl, rfl, hj, hcc, gFo, gF0, gsum, gC⟩ hN2
      obtain ⟨e1, e2, e3⟩ := gC.1 w2 (fun e => h02 e.symm)
      unfold wbX3_product_56
      rw [e2, u1, nI_add]
      refine pk_le n2 j (fun h2 => ?_) (fun h2 => ?_) rfl rfl (by omega) (by omega)
      · have hje : j = n2 := by omega
        subst hje
        unfold wpX3_product_132
        rw [e2, u1, nI_add]
        refine pk_le (n1 + j) (k + j) (fun h3 => absurd h3 (by omega)) (fun h3 => ⟨pk_in (k + j) _ (by omega), ?_⟩) rfl rfl (by omega) (by omega)
        unfold wpX3_product_158
        intro a1 ha1
        rw [nI_1] at ha1
        subst ha1
        rw [lN_i]
        have e4 : cF (sFi τ2 w0 (nI (k + j)) (nI c)) w0 = upd (cF τ2 w0) (k + j) (nI c) := by rw [cF_sFi, nI_clamp (by omega)]
        refine hN _ _ _ ⟨k + 1, rfl, rfl, by omega, ?_, ?_, ?_, Ch1.sFi gC _ _⟩ ?_
        · rw [e4]
          exact okd_set gFo hcc
        · intro i hi1 hi2
          rw [e4, upd_n (by omega)]
          exact gF0 i (by omega) hi2
        · rw [e4]
          have h7 := mag_set (F := cF τ2 w0) (m := k + j) (e := n1 + j) (r := c) (by omega) hcc
          rw [dg_nI (d := 0) (by rw [gF0 (k + j) (by omega) (by omega)]; exact nI_0.symm) (by omega)] at h7
          rw [mag_s, Nat.add_mul, m2, Nat.mul_right_comm (dg (cF σ w1) k)]
          rw [m2] at gsum
          omega
        · show n1 - (nI (k + 1)).toNatClampNeg < n1 - (nI k).toNatClampNeg
          rw [nI_clamp (by omega), nI_clamp (by omega)]
          omega
      · refine pk_le (n1 + n2) (k + j) (fun h3 => absurd h3 (by omega)) (fun h3 => ⟨pk_in j _ (by omega), pk_in (k + j) _ (by omega), fun b2 hb2 => ⟨pk_in (k + j) _ (by omega), fun b3 hb3 a4 ha4 => ?_⟩⟩) rfl rfl (by omega) (by omega)
        have hgj := dg_lt (cF σ w2) j
        have hfj := dg_lt (cF τ2 w0) (k + j)
        rw [e1, nI_clamp (by omega), nI_clamp (by omega), u3 j h2, gFo (k + j) (by omega), nI_l (by omega), nI_l (by omega), lN_mul, lN_add, lN_add] at hb2
        have hle : dg (cF σ w1) k * dg (cF σ w2) j ≤ 2147483647 * 2147483647 := Nat.mul_le_mul (by omega) (by omega)
        generalize hu : dg (cF σ w1) k * dg (cF σ w2) j = u at *
        generalize hv : dg (cF τ2 w0) (k + j) = v at *
        rw [hb2] at hb3 ⊢
        rw [lsh31 (by omega)] at hb3
        rw [nI_1] at ha4
        subst hb3 ha4
        rw [lmask31 (by omega)]
        have hmod : (u + v + c) % 2147483648 < 2147483648 := Nat.mod_lt _ (by omega)
        have e4 : cF (sFi τ2 w0 (nI (k + j)) (nI ((u + v + c) % 2147483648))) w0 = upd (cF τ2 w0) (k + j) (nI ((u + v + c) % 2147483648)) := by rw [cF_sFi, nI_clamp (by omega)]
        refine hN2 _ _ _ _ _ _ ⟨j + 1, (u + v + c) / 2147483648, rfl, rfl, rfl, rfl, rfl, by omega, by omega, ?_, ?_, ?_, Ch1.sFi gC _ _⟩ ?_
        · rw [e4]
          exact okd_set gFo hmod
        · intro i hi1 hi2
          rw [e4, upd_n (by omega)]
          exact gF0 i hi1 hi2
        · rw [e4]
          have h7 := mag_set (F := cF τ2 w0) (m := k + j) (e := n1 + n2) (r := (u + v + c) % 2147483648) (by omega) hmod
          rw [hv] at h7
          have h8 : (u + v + c) * 2147483648 ^ (k + j) = ((u + v + c) % 2147483648 + (u + v + c) / 2147483648 * 2147483648) * 2147483648 ^ (k + j) := by
            congr 1
            omega
          rw [Nat.add_mul, Nat.add_mul, Nat.add_mul, Nat.mul_assoc ((u + v + c) / 2147483648), Nat.mul_comm 2147483648, ← Nat.pow_succ] at h8
          have h9 : dg (cF σ w1) k * mag (cF σ w2) (j + 1) * 2147483648 ^ k = dg (cF σ w1) k * mag (cF σ w2) j * 2147483648 ^ k + u * 2147483648 ^ (k + j) := by
            rw [mag_s, Nat.mul_add, Nat.add_mul, ← Nat.mul_assoc, hu, Nat.mul_assoc u, ← Nat.pow_add, Nat.add_comm j k]
          rw [h9, show k + (j + 1) = (k + j).succ from rfl]
          omega
        · show n2 - (nI (j + 1)).toNatClampNeg < n2 - (nI j).toNatClampNeg
          rw [nI_clamp (by omega), nI_clamp (by omega)]
          omega
    · show mag (cF τ w0) (n1 + n2) + 0 * _ = _ + dg (cF σ w1) k * 0 * _
      rw [hsum, Nat.mul_zero, Nat.zero_mul, Nat.zero_mul]
