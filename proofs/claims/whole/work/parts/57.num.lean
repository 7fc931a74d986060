/-! PURE: takesTooMuch, giveBack -/
theorem lshr31 (z : Int64) : (jlshr z (31 : Int32)).toInt = z.toInt / 2147483648 := by
  have e : (jlshr z (31 : Int32)).toInt = z.toInt >>> 31 := by
    show (z.toBitVec.sshiftRight (((31 : Int32).toInt64 &&& 63).toBitVec.smod 64).toNat).toInt = _
    rw [show ((((31 : Int32).toInt64 &&& 63).toBitVec.smod 64).toNat) = 31 by decide, BitVec.toInt_sshiftRight]
    rfl
  rw [e, Int.shiftRight_eq_div_pow]
  rfl
theorem lneg_toInt {c : Nat} (hc : c < 9223372036854775808) : (-(lN c)).toInt = -(c : Int) := by
  rw [Int64.toInt_neg, pk_lT (by omega), Int.bmod_eq_of_le (by omega) (by omega)]
theorem lneg_eq {c : Nat} (hc : 0 < c) (hc2 : c ≤ 9223372036854775808) : -(lN c) = lN (18446744073709551616 - c) := by
  have h0 : lN 18446744073709551616 = 0 := by decide
  have h1 : lN (18446744073709551616 - c) + lN c = 0 := by rw [lN_add, show 18446744073709551616 - c + c = 18446744073709551616 by omega]; exact h0
  rw [← Int64.zero_add (-(lN c)), ← h1, Int64.add_assoc, Int64.add_right_neg, Int64.add_zero]
/-- one digit of a difference with a product -/
theorem dig_mul {d g t c : Nat} (hd : d < 2147483648) (hg : g < 2147483648) (ht : t < 2147483648) (hc : c < 2147483648) : ∃ r c', r < 2147483648 ∧ c' < 2147483648 ∧ d + c' * 2147483648 = r + g * t + c ∧ ((lN d - lN g * lN t + -(lN c)) &&& (2147483647 : Int64)).toInt32 = nI r ∧ jlshr (lN d - lN g * lN t + -(lN c)) (31 : Int32) = -(lN c') := by
  have hgt : g * t ≤ 2147483647 * 2147483647 := Nat.mul_le_mul (by omega) (by omega)
  have e0 : lN d - lN g * lN t + -(lN c) = lN d - lN (g * t + c) := by
    rw [lN_mul, ← lN_add, Int64.sub_eq_add_neg, Int64.sub_eq_add_neg, Int64.neg_add, Int64.add_assoc, Int64.sub_eq_add_neg]
  rw [e0]
  generalize g * t = m at *
  by_cases h : m + c ≤ d
  · refine ⟨d - (m + c), 0, by omega, by omega, by omega, ?_, ?_⟩
    · rw [lN_sub h, lmask31 (by omega), Nat.mod_eq_of_lt (by omega)]
    · rw [lN_sub h]
      apply Int64.toInt_inj.mp
      rw [lshr31, pk_lT (by omega), lneg_toInt (by omega)]
      omega
  · have e1 : lN d - lN (m + c) = -(lN (m + c - d)) := by
      rw [← lN_sub (a := m + c) (b := d) (by omega), Int64.neg_sub]
    refine ⟨(m + c - d + 2147483647) / 2147483648 * 2147483648 - (m + c - d), (m + c - d + 2147483647) / 2147483648, by omega, by omega, by omega, ?_, ?_⟩
    · rw [e1, lneg_eq (by omega) (by omega), lmask31 (by omega)]
      congr 1
      omega
    · rw [e1]
      apply Int64.toInt_inj.mp
      rw [lshr31, lneg_toInt (by omega), lneg_toInt (by omega)]
      omega
theorem mag_dig {F : Nat → Int32} {i n : Nat} (h : i < n) : dg F i * 2147483648 ^ i ≤ mag F n := by
  induction n with
  | zero => omega
  | succ n ih =>
    rw [mag_s]
    rcases Nat.eq_or_lt_of_le (Nat.le_of_lt_succ h) with e | e
    · subst e; omega
    · have := ih e; omega
theorem hi_zero {F : Nat → Int32} {n m : Nat} (ho : okd F n) (h : mag F n < 2147483648 ^ m) : ∀ i, m ≤ i → i < n → F i = 0 := by
  intro i h1 h2
  have h3 := mag_dig (F := F) h2
  have h4 := pow_mono h1
  have h5 : dg F i = 0 := by
    rcases Nat.eq_zero_or_pos (dg F i) with e | e
    · exact e
    · have : 1 * 2147483648 ^ i ≤ dg F i * 2147483648 ^ i := Nat.mul_le_mul_right _ e
      omega
  rw [ho i h2, h5]
  rfl
theorem mag_hi {F : Nat → Int32} {m n : Nat} (hm : m ≤ n) (h : ∀ i, m ≤ i → i < n → F i = 0) : mag F n = mag F m := by
  induction n with
  | zero =>
    have : m = 0 := by omega
    subst this
    rfl
  | succ n ih =>
    rcases Nat.eq_or_lt_of_le hm with e | e
    · rw [e]
    · rw [mag_s, ih (by omega) (fun i h1 h2 => h i h1 (by omega)), dg_nI (d := 0) (by rw [h n (by omega) (by omega)]; exact nI_0.symm) (by omega)]
      omega
theorem mm (a b c : Nat) : a * b * c = a * c * b := Nat.mul_right_comm a b c
set_option maxHeartbeats 1000000 in
theorem sp_takes {w0 w1 n0 n1 k t E : Nat} {σ : CS} {Q : Int32 → CS → Prop} (r0 : Raw σ w0 n0) (r1 : Raw σ w1 n1) (hne : w0 ≠ w1) (hk : k + n1 ≤ n0) (ht : t < 2147483648) (hE : E = min (k + n1 + 1) n0) (hX : mag (cF σ w0) n0 < 2147483648 ^ E) (hlow : t * mag (cF σ w1) n1 * 2147483648 ^ k ≤ mag (cF σ w0) n0 + 2147483648 ^ E)
    (hQ : ∀ σ', Raw σ' w0 n0 → (mag (cF σ' w0) n0 + t * mag (cF σ w1) n1 * 2147483648 ^ k = mag (cF σ w0) n0 + (if mag (cF σ w0) n0 < t * mag (cF σ w1) n1 * 2147483648 ^ k then 2147483648 ^ E else 0)) → Ch σ σ' (fun z => z = w0) → cG σ' w0 = cG σ w0 → Q (if mag (cF σ w0) n0 < t * mag (cF σ w1) n1 * 2147483648 ^ k then 1 else 0) σ') : wpX3_takesTooMuch w0 w1 (lN t) (nI k) σ Q := by
  obtain ⟨a1, a2, a3⟩ := r0
  obtain ⟨b1, b2, b3⟩ := r1
  have hc0 := capW_le w0
  have hc1 := capW_le w1
  obtain ⟨X, hXe⟩ : ∃ X, X = mag (cF σ w0) n0 := ⟨_, rfl⟩
  rw [← hXe] at hX hlow hQ
  show ∃ n, lq3 (wbX3_takesTooMuch_6 w0 w1 (lN t) (nI k) Q) n (0 : Int64) (0 : Int32) σ
  refine lq3_i (I := fun l5 i7 τ => ∃ j c, l5 = -(lN c) ∧ i7 = nI j ∧ j ≤ n1 ∧ c < 2147483648 ∧ cS τ w0 = nI n0 ∧ okd (cF τ w0) n0 ∧ (∀ i, k + j ≤ i → cF τ w0 i = cF σ w0 i) ∧ mag (cF τ w0) n0 + t * mag (cF σ w1) j * 2147483648 ^ k = X + c * 2147483648 ^ (k + j) ∧ Ch σ τ (fun z => z = w0) ∧ cG τ w0 = cG σ w0) (μ := fun _ i7 _ => n1 - i7.toNatClampNeg) ?_ _ _ _ ⟨0, 0, by decide, rfl, by omega, by omega, a1, a3, fun _ _ => rfl, by rw [hXe]; show _ + t * 0 * _ = _ + 0 * _; rw [Nat.mul_zero, Nat.zero_mul, Nat.zero_mul], Ch.refl σ _, rfl⟩
  rintro N l5 i7 τ ⟨j, c, rfl, rfl, hj, hcc, gS, gFo, gF, gsum, gC, gG⟩ hN
  obtain ⟨c1, c2, c3⟩ := gC.1 w1 (fun e => hne e.symm)
  unfold wbX3_takesTooMuch_6
  rw [c2, b1, c1, gS, nI_add]
  have hend : j = n1 → wpX3_takesTooMuch_84 w0 w1 (lN t) (nI k) Q (-(lN c)) τ := by
    rintro rfl
    unfold wpX3_takesTooMuch_84
    intro z1 hz1
    rw [c2, b1, nI_add] at hz1
    subst hz1
    rw [gS]
    unfold wpX3_takesTooMuch_129
    have hfl : ∀ z : Int64, 0 ≤ lg_cmp z 0 ↔ 0 ≤ z.toInt := by
      intro z
      rw [lg_cmp_ge, Int64.le_iff_toInt_le]
      exact Iff.rfl
    have hmlt := mag_lt (cF τ w0) n0
    refine pk_le n0 (k + j) (fun h => ?_) (fun h => ⟨pk_in (k + j) _ (by omega), fun z2 hz2 => ⟨pk_in (k + j) _ (by omega), ?_⟩⟩) rfl rfl (by omega) (by omega)
    · have hEe : E = n0 := by omega
      have hkj : k + j = n0 := by omega
      rw [hkj] at gsum
      rw [hEe] at hX hlow hQ
      rw [hfl, lneg_toInt (by omega)]
      rcases Nat.eq_zero_or_pos c with e | e
      · subst e
        rw [if_neg (by omega), if_neg (by omega)] at hQ
        exact ⟨fun _ => hQ τ ⟨gS, a2, gFo⟩ (by omega) gC gG, fun h7 => absurd (by omega) h7⟩
      · have hc' : c = 1 := by
          rcases Nat.lt_or_ge c 2 with h7 | h7
          · omega
          · have : 2 * 2147483648 ^ n0 ≤ c * 2147483648 ^ n0 := Nat.mul_le_mul_right _ h7
            omega
        subst hc'
        rw [if_pos (by omega), if_pos (by omega)] at hQ
        exact ⟨fun h7 => absurd h7 (by omega), fun _ => hQ τ ⟨gS, a2, gFo⟩ (by omega) gC gG⟩
    · have hEe : E = k + j + 1 := by omega
      rw [hEe] at hX hlow hQ
      have hz := hi_zero a3 (by rw [← hXe]; exact hX)
      have hd := dg_lt (cF σ w0) (k + j)
      have hdF : dg (cF τ w0) (k + j) = dg (cF σ w0) (k + j) := by unfold dg; rw [gF (k + j) (Nat.le_refl _)]
      have hmag1 : mag (cF τ w0) n0 = mag (cF τ w0) (k + j) + dg (cF σ w0) (k + j) * 2147483648 ^ (k + j) := by
        rw [mag_hi (m := k + j + 1) (by omega) (fun i h1 h2 => by rw [gF i (by omega)]; exact hz i h1 h2), mag_s, hdF]
      have hml := mag_lt (cF τ w0) (k + j)
      have hz2' : z2 = lN (dg (cF σ w0) (k + j)) + -(lN c) := by
        rw [hz2, nI_clamp (by omega), gF (k + j) (Nat.le_refl _), a3 (k + j) (by omega), nI_l (by omega), Int64.add_comm]
      generalize hdd : dg (cF σ w0) (k + j) = d at *
      have e4 : ∀ r : Nat, cF (sFi τ w0 (nI (k + j)) (nI r)) w0 = upd (cF τ w0) (k + j) (nI r) := by intro r; rw [cF_sFi, nI_clamp (by omega)]
      rw [hfl]
      by_cases h7 : c ≤ d
      · have e5 : z2 = lN (d - c) := by rw [hz2', ← Int64.sub_eq_add_neg, lN_sub h7]
        rw [e5, lmask31 (by omega), Nat.mod_eq_of_lt (show d - c < 2147483648 by omega), pk_lT (by omega)]
        have h8 := mag_set (F := cF τ w0) (m := k + j) (e := n0) (r := d - c) (by omega) (by omega)
        rw [hdF] at h8
        have h9 : d * 2147483648 ^ (k + j) = (d - c) * 2147483648 ^ (k + j) + c * 2147483648 ^ (k + j) := by
          rw [← Nat.add_mul]
          congr 1
          omega
        rw [if_neg (by omega), if_neg (by omega)] at hQ
        refine ⟨fun _ => hQ _ ⟨by rw [cS_sFi]; exact gS, a2, by rw [e4]; exact okd_set gFo (by omega)⟩ (by rw [e4]; omega) (Ch1.sFi gC _ _) (by rw [cG_sFi]; exact gG), fun h10 => absurd (by omega) h10⟩
      · have e5 : z2 = -(lN (c - d)) := by rw [hz2', ← lN_sub (a := c) (b := d) (by omega), Int64.neg_sub, Int64.sub_eq_add_neg]
        rw [e5, lneg_eq (by omega) (by omega), lmask31 (by omega), ← lneg_eq (by omega) (by omega), lneg_toInt (by omega)]
        rw [show (18446744073709551616 - (c - d)) % 2147483648 = 2147483648 + d - c by omega]
        have h8 := mag_set (F := cF τ w0) (m := k + j) (e := n0) (r := 2147483648 + d - c) (by omega) (by omega)
        rw [hdF] at h8
        have h9 : (2147483648 + d - c) * 2147483648 ^ (k + j) + c * 2147483648 ^ (k + j) = d * 2147483648 ^ (k + j) + 2147483648 ^ (k + j + 1) := by
          rw [← Nat.add_mul, Nat.pow_succ, Nat.mul_comm (2147483648 ^ (k + j)), ← Nat.add_mul]
          congr 1
          omega
        have h11 : (d + 1) * 2147483648 ^ (k + j) ≤ c * 2147483648 ^ (k + j) := Nat.mul_le_mul_right _ (by omega)
        rw [Nat.succ_mul] at h11
        rw [if_pos (by omega), if_pos (by omega)] at hQ
        refine ⟨fun h10 => absurd h10 (by omega), fun _ => hQ _ ⟨by rw [cS_sFi]; exact gS, a2, by rw [e4]; exact okd_set gFo (by omega)⟩ (by rw [e4]; omega) (Ch1.sFi gC _ _) (by rw [cG_sFi]; exact gG)⟩
  refine pk_le n1 j (fun h => hend (by omega)) (fun h => ?_) rfl rfl (by omega) (by omega)
  refine pk_le n0 (k + j) (fun h2 => absurd h2 (by omega)) (fun h2 => ⟨pk_in (k + j) _ (by omega), pk_in j _ (by omega), fun z3 hz3 => ⟨pk_in (k + j) _ (by omega), fun z4 hz4 z5 hz5 => ?_⟩⟩) rfl rfl (by omega) (by omega)
  have hd := dg_lt (cF τ w0) (k + j)
  have hg := dg_lt (cF σ w1) j
  rw [nI_clamp (by omega), nI_clamp (by omega), gFo (k + j) (by omega), b3 j h, nI_l (by omega), nI_l (by omega)] at hz3
  obtain ⟨r, c', hr, hc', heq, hm1, hm2⟩ := dig_mul hd hg ht hcc
  rw [← hz3] at hm1 hm2
  rw [hm1]
  rw [hm2] at hz4
  rw [nI_1] at hz5
  subst hz4 hz5
  have e4 : cF (sFi τ w0 (nI (k + j)) (nI r)) w0 = upd (cF τ w0) (k + j) (nI r) := by rw [cF_sFi, nI_clamp (by omega)]
  refine hN _ _ _ ⟨j + 1, c', rfl, rfl, by omega, hc', by rw [cS_sFi]; exact gS, ?_, ?_, ?_, Ch1.sFi gC _ _, by rw [cG_sFi]; exact gG⟩ ?_
  · rw [e4]
    exact okd_set gFo hr
  · intro i hi
    rw [e4, upd_n (by omega)]
    exact gF i (by omega)
  · rw [e4]
    have h8 := mag_set (F := cF τ w0) (m := k + j) (e := n0) (r := r) (by omega) hr
    generalize hdd : dg (cF τ w0) (k + j) = d at *
    generalize hgg : dg (cF σ w1) j = g at *
    have h9 : (d + c' * 2147483648) * 2147483648 ^ (k + j) = (r + g * t + c) * 2147483648 ^ (k + j) := by rw [heq]
    rw [Nat.add_mul, Nat.add_mul, Nat.add_mul, Nat.mul_assoc c', Nat.mul_comm 2147483648, ← Nat.pow_succ] at h9
    have h10 : t * mag (cF σ w1) (j + 1) * 2147483648 ^ k = t * mag (cF σ w1) j * 2147483648 ^ k + g * t * 2147483648 ^ (k + j) := by
      rw [mag_s, hgg, Nat.mul_add, Nat.add_mul, Nat.pow_add]
      congr 1
      rw [← Nat.mul_assoc, Nat.mul_comm t g, Nat.mul_assoc (g * t), Nat.mul_comm (2147483648 ^ j)]
    rw [h10, show k + (j + 1) = (k + j).succ from rfl]
    omega
  · show n1 - (nI (j + 1)).toNatClampNeg < n1 - (nI j).toNatClampNeg
    rw [nI_clamp (by omega), nI_clamp (by omega)]
    omega
set_option maxHeartbeats 1000000 in
theorem sp_give {w0 w1 n0 n1 k E : Nat} {σ : CS} {Q : CS → Prop} (r0 : Raw σ w0 n0) (r1 : Raw σ w1 n1) (hne : w0 ≠ w1) (hk : k + n1 ≤ n0) (hE : E = min (k + n1 + 1) n0) (hX : mag (cF σ w0) n0 < 2147483648 ^ E) (hge : 2147483648 ^ E ≤ mag (cF σ w0) n0 + mag (cF σ w1) n1 * 2147483648 ^ k)
    (hQ : ∀ σ', Raw σ' w0 n0 → mag (cF σ' w0) n0 + 2147483648 ^ E = mag (cF σ w0) n0 + mag (cF σ w1) n1 * 2147483648 ^ k → Ch σ σ' (fun z => z = w0) → cG σ' w0 = cG σ w0 → Q σ') : wpX3_giveBack w0 w1 (nI k) σ Q := by
  obtain ⟨a1, a2, a3⟩ := r0
  obtain ⟨b1, b2, b3⟩ := r1
  have hc0 := capW_le w0
  have hc1 := capW_le w1
  obtain ⟨X, hXe⟩ : ∃ X, X = mag (cF σ w0) n0 := ⟨_, rfl⟩
  rw [← hXe] at hX hge hQ
  show ∃ n, lq3 (wbX3_giveBack_5 w0 w1 (nI k) Q) n (0 : Int32) (0 : Int32) σ
  refine lq3_i (I := fun i3 i4 τ => ∃ j c, i3 = nI c ∧ i4 = nI j ∧ j ≤ n1 ∧ c ≤ 1 ∧ cS τ w0 = nI n0 ∧ okd (cF τ w0) n0 ∧ (∀ i, k + j ≤ i → cF τ w0 i = cF σ w0 i) ∧ mag (cF τ w0) n0 + c * 2147483648 ^ (k + j) = X + mag (cF σ w1) j * 2147483648 ^ k ∧ Ch σ τ (fun z => z = w0) ∧ cG τ w0 = cG σ w0) (μ := fun _ i4 _ => n1 - i4.toNatClampNeg) ?_ _ _ _ ⟨0, 0, rfl, rfl, by omega, by omega, a1, a3, fun _ _ => rfl, by rw [hXe]; show _ + 0 * _ = _ + 0 * _; rw [Nat.zero_mul, Nat.zero_mul], Ch.refl σ _, rfl⟩
  rintro N i3 i4 τ ⟨j, c, rfl, rfl, hj, hcc, gS, gFo, gF, gsum, gC, gG⟩ hN
  obtain ⟨c1, c2, c3⟩ := gC.1 w1 (fun e => hne e.symm)
  unfold wbX3_giveBack_5
  rw [c2, b1, c1, gS, nI_add]
  have hend : j = n1 → wpX3_giveBack_72 w0 w1 (nI k) Q (nI c) τ := by
    rintro rfl
    unfold wpX3_giveBack_72
    intro z1 hz1
    rw [c2, b1, nI_add] at hz1
    subst hz1
    rw [gS]
    have hmlt := mag_lt (cF τ w0) n0
    refine pk_le n0 (k + j) (fun h => ?_) (fun h => ⟨pk_in (k + j) _ (by omega), pk_in (k + j) _ (by omega), ?_⟩) rfl rfl (by omega) (by omega)
    · have hEe : E = n0 := by omega
      have hkj : k + j = n0 := by omega
      rw [hkj] at gsum
      rw [hEe] at hX hge hQ
      have hc' : c = 1 := by
        rcases Nat.eq_or_lt_of_le hcc with e | e
        · exact e
        · have : c = 0 := by omega
          subst this
          omega
      subst hc'
      exact hQ τ ⟨gS, a2, gFo⟩ (by omega) gC gG
    · have hEe : E = k + j + 1 := by omega
      rw [hEe] at hX hge hQ
      have hz := hi_zero a3 (by rw [← hXe]; exact hX)
      have hd := dg_lt (cF σ w0) (k + j)
      have hdF : dg (cF τ w0) (k + j) = dg (cF σ w0) (k + j) := by unfold dg; rw [gF (k + j) (Nat.le_refl _)]
      have hmag1 : mag (cF τ w0) n0 = mag (cF τ w0) (k + j) + dg (cF σ w0) (k + j) * 2147483648 ^ (k + j) := by
        rw [mag_hi (m := k + j + 1) (by omega) (fun i h1 h2 => by rw [gF i (by omega)]; exact hz i h1 h2), mag_s, hdF]
      have hml := mag_lt (cF τ w0) (k + j)
      rw [nI_clamp (by omega), gF (k + j) (Nat.le_refl _), a3 (k + j) (by omega)]
      generalize hdd : dg (cF σ w0) (k + j) = d at *
      rw [Nat.pow_succ] at hge
      have hdc : d + c = 2147483648 := by
        rcases Nat.lt_or_ge (d + c) 2147483648 with h7 | h7
        · exfalso
          have h8 : (d + c + 1) * 2147483648 ^ (k + j) ≤ 2147483648 * 2147483648 ^ (k + j) := Nat.mul_le_mul_right _ (by omega)
          rw [Nat.add_mul, Nat.add_mul, Nat.one_mul, Nat.mul_comm 2147483648] at h8
          omega
        · omega
      rw [nI_add, hdc, show nI 2147483648 &&& (2147483647 : Int32) = nI 0 by decide]
      have e4 : cF (sFi τ w0 (nI (k + j)) (nI 0)) w0 = upd (cF τ w0) (k + j) (nI 0) := by rw [cF_sFi, nI_clamp (by omega)]
      have h8 := mag_set (F := cF τ w0) (m := k + j) (e := n0) (r := 0) (by omega) (by omega)
      rw [hdF] at h8
      have h9 : d * 2147483648 ^ (k + j) + c * 2147483648 ^ (k + j) = 2147483648 ^ (k + j + 1) := by
        rw [← Nat.add_mul, hdc, Nat.pow_succ, Nat.mul_comm]
      exact hQ _ ⟨by rw [cS_sFi]; exact gS, a2, by rw [e4]; exact okd_set gFo (by omega)⟩ (by rw [e4]; omega) (Ch1.sFi gC _ _) (by rw [cG_sFi]; exact gG)
  refine pk_le n1 j (fun h => hend (by omega)) (fun h => ?_) rfl rfl (by omega) (by omega)
  refine pk_le n0 (k + j) (fun h2 => absurd h2 (by omega)) (fun h2 => ⟨pk_in (k + j) _ (by omega), pk_in j _ (by omega), fun z3 hz3 => ⟨pk_in (k + j) _ (by omega), fun z4 hz4 z5 hz5 => ?_⟩⟩) rfl rfl (by omega) (by omega)
  have hd := dg_lt (cF τ w0) (k + j)
  have hg := dg_lt (cF σ w1) j
  rw [nI_clamp (by omega), nI_clamp (by omega), gFo (k + j) (by omega), b3 j h] at hz3
  obtain ⟨r, c', hr, hc', heq, hm1, hm2⟩ := dig_add hd hg hcc
  rw [← hz3] at hm1 hm2
  rw [hm1]
  rw [hm2] at hz4
  rw [nI_1] at hz5
  subst hz4 hz5
  have e4 : cF (sFi τ w0 (nI (k + j)) (nI r)) w0 = upd (cF τ w0) (k + j) (nI r) := by rw [cF_sFi, nI_clamp (by omega)]
  refine hN _ _ _ ⟨j + 1, c', rfl, rfl, by omega, hc', by rw [cS_sFi]; exact gS, ?_, ?_, ?_, Ch1.sFi gC _ _, by rw [cG_sFi]; exact gG⟩ ?_
  · rw [e4]
    exact okd_set gFo hr
  · intro i hi
    rw [e4, upd_n (by omega)]
    exact gF i (by omega)
  · rw [e4]
    have h8 := mag_set (F := cF τ w0) (m := k + j) (e := n0) (r := r) (by omega) hr
    generalize hdd : dg (cF τ w0) (k + j) = d at *
    generalize hgg : dg (cF σ w1) j = g at *
    have h9 : (d + g + c) * 2147483648 ^ (k + j) = (r + c' * 2147483648) * 2147483648 ^ (k + j) := by rw [heq]
    rw [Nat.add_mul, Nat.add_mul, Nat.add_mul, Nat.mul_assoc c', Nat.mul_comm 2147483648, ← Nat.pow_succ] at h9
    have h10 : mag (cF σ w1) (j + 1) * 2147483648 ^ k = mag (cF σ w1) j * 2147483648 ^ k + g * 2147483648 ^ (k + j) := by
      rw [mag_s, hgg, Nat.add_mul, Nat.pow_add, Nat.mul_assoc, Nat.mul_comm (2147483648 ^ j)]
    rw [h10, show k + (j + 1) = (k + j).succ from rfl]
    omega
  · show n1 - (nI (j + 1)).toNatClampNeg < n1 - (nI j).toNatClampNeg
    rw [nI_clamp (by omega), nI_clamp (by omega)]
    omega
