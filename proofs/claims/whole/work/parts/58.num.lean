/-! PURE: divide -/
theorem sg_tdiv {x y : Int} (h : x.tdiv y ≠ 0) : sg32 x * sg32 y = sg32 (x.tdiv y) := by
  have key : ∀ a b : Nat, ((a : Int).tdiv (b : Int)) = ((a / b : Nat) : Int) := fun a b => rfl
  rcases Int.lt_trichotomy x 0 with hx | hx | hx
  · obtain ⟨a, rfl⟩ : ∃ a : Nat, x = -(a : Int) := ⟨x.natAbs, by omega⟩
    rcases Int.lt_trichotomy y 0 with hy | hy | hy
    · obtain ⟨b, rfl⟩ : ∃ b : Nat, y = -(b : Int) := ⟨y.natAbs, by omega⟩
      rw [Int.neg_tdiv, Int.tdiv_neg, Int.neg_neg, key] at h ⊢
      generalize a / b = q at h ⊢
      rw [sg32_lt hx, sg32_lt hy, sg32_pos (by omega)]
      rfl
    · subst hy
      exact absurd (Int.tdiv_zero _) h
    · obtain ⟨b, rfl⟩ : ∃ b : Nat, y = (b : Int) := ⟨y.natAbs, by omega⟩
      rw [Int.neg_tdiv, key] at h ⊢
      generalize a / b = q at h ⊢
      rw [sg32_lt hx, sg32_pos hy, sg32_lt (by omega)]
      rfl
  · subst hx
    exact absurd (Int.zero_tdiv _) h
  · obtain ⟨a, rfl⟩ : ∃ a : Nat, x = (a : Int) := ⟨x.natAbs, by omega⟩
    rcases Int.lt_trichotomy y 0 with hy | hy | hy
    · obtain ⟨b, rfl⟩ : ∃ b : Nat, y = -(b : Int) := ⟨y.natAbs, by omega⟩
      rw [Int.tdiv_neg, key] at h ⊢
      generalize a / b = q at h ⊢
      rw [sg32_pos hx, sg32_lt hy, sg32_lt (by omega)]
      rfl
    · subst hy
      exact absurd (Int.tdiv_zero _) h
    · obtain ⟨b, rfl⟩ : ∃ b : Nat, y = (b : Int) := ⟨y.natAbs, by omega⟩
      rw [key] at h ⊢
      generalize a / b = q at h ⊢
      rw [sg32_pos hx, sg32_pos hy, sg32_pos (by omega)]
      rfl
theorem sg_tmod {x y : Int} (h : x.tmod y ≠ 0) : sg32 x = sg32 (x.tmod y) := by
  rcases Int.lt_trichotomy x 0 with hx | hx | hx
  · have h1 : (-x).tmod y = -(x.tmod y) := Int.neg_tmod x y
    have h2 := Int.tmod_nonneg (a := -x) y (by omega)
    rw [sg32_lt hx, sg32_lt (by omega)]
  · subst hx
    exact absurd (Int.zero_tmod _) h
  · have h2 := Int.tmod_nonneg (a := x) y (by omega)
    rw [sg32_pos hx, sg32_pos (by omega)]
/-- Knuth's bound for the guessed digit -/
theorem knuth {X Y P q t U V B S : Nat} (hq1 : q * (Y * P) ≤ X) (hq2 : X < (q + 1) * (Y * P)) (hqB : q < B) (hP : 0 < P) (hS : 0 < S) (hV1 : V * S ≤ Y) (hV2 : Y < (V + 1) * S) (hU1 : U * (S * P) ≤ X) (hU2 : X < (U + 1) * (S * P)) (hVB : B ≤ V) (ht : t * V ≤ U) (hmax : t + 1 = B ∨ U < (t + 1) * V) : q ≤ t ∧ t ≤ q + 1 := by
  have hSP : 0 < S * P := Nat.mul_pos hS hP
  have hqV : q * V ≤ U := by
    have h1 : q * V * (S * P) ≤ X := by
      have h2 : q * (V * S * P) ≤ q * (Y * P) := Nat.mul_le_mul_left _ (Nat.mul_le_mul_right _ hV1)
      have h3 : q * V * (S * P) = q * (V * S * P) := by grind
      omega
    have h4 : q * V * (S * P) < (U + 1) * (S * P) := Nat.lt_of_le_of_lt h1 hU2
    have h5 := Nat.lt_of_mul_lt_mul_right h4
    omega
  constructor
  · rcases Nat.lt_or_ge t q with h | h
    · exfalso
      rcases hmax with h1 | h1
      · omega
      · have h2 : (t + 1) * V ≤ q * V := Nat.mul_le_mul_right _ h
        omega
    · exact h
  · rcases Nat.lt_or_ge (q + 1) t with h | h
    · exfalso
      have h1 : (q + 2) * V ≤ t * V := Nat.mul_le_mul_right _ (by omega)
      have h2 : (q + 1) * (Y * P) ≤ (q + 1) * ((V + 1) * S * P) := Nat.mul_le_mul_left _ (Nat.mul_le_mul_right _ (Nat.le_of_lt hV2))
      have h3 : (q + 1) * ((V + 1) * S * P) = (q + 1) * (V + 1) * (S * P) := by grind
      have h4 : U * (S * P) < (q + 1) * (V + 1) * (S * P) := by omega
      have h5 := Nat.lt_of_mul_lt_mul_right h4
      have h6 : (q + 1) * (V + 1) = (q + 1) * V + q + 1 := by grind
      have h7 : (q + 2) * V = (q + 1) * V + V := by grind
      omega
    · exact h
theorem two_dig {Z m : Nat} (hm : 1 ≤ m) : Z * 2147483648 ^ 2 / 2147483648 ^ m = Z / 2147483648 ^ (m - 1) * 2147483648 + (if m = 1 then 0 else (Z / 2147483648 ^ (m - 2)) % 2147483648) := by
  rcases Nat.eq_or_lt_of_le hm with e | e
  · subst e
    rw [if_pos rfl, show (1 : Nat) - 1 = 0 from rfl, Nat.pow_zero, Nat.div_one, Nat.pow_one, show (2147483648 : Nat) ^ 2 = 2147483648 * 2147483648 from rfl, ← Nat.mul_assoc, Nat.mul_div_cancel _ (by omega)]
    exact (Nat.add_zero _).symm
  · rw [if_neg (by omega)]
    obtain ⟨j, rfl⟩ : ∃ j, m = j + 2 := ⟨m - 2, by omega⟩
    rw [show j + 2 - 1 = j + 1 from rfl, show j + 2 - 2 = j from rfl, Nat.pow_add, Nat.mul_div_mul_right _ _ (by decide), Nat.pow_succ, ← Nat.div_div_eq_div_mul]
    generalize Z / 2147483648 ^ j = z
    omega
theorem lead_dig {Z m : Nat} (hm : 1 ≤ m) (h : Z < 2147483648 ^ (m + 1)) : (Z / 2147483648 ^ m) % 2147483648 * 2147483648 + (Z / 2147483648 ^ (m - 1)) % 2147483648 = Z / 2147483648 ^ (m - 1) := by
  obtain ⟨j, rfl⟩ : ∃ j, m = j + 1 := ⟨m - 1, by omega⟩
  have h1 : Z / 2147483648 ^ (j + 1) < 2147483648 := by
    rw [Nat.div_lt_iff_lt_mul (Nat.pow_pos (by omega)), Nat.mul_comm, ← Nat.pow_succ]
    exact h
  rw [Nat.mod_eq_of_lt h1, Nat.add_sub_cancel, Nat.pow_succ, ← Nat.div_div_eq_div_mul]
  generalize Z / 2147483648 ^ j = z
  omega
theorem div_bd (A S : Nat) (hS : 0 < S) : A / S * S ≤ A ∧ A < (A / S + 1) * S := by
  refine ⟨Nat.div_mul_le_self A S, ?_⟩
  rw [Nat.mul_comm]
  exact Nat.lt_mul_div_succ A hS
set_option maxHeartbeats 2000000 in
theorem sp_divide {w0 w1 w2 : Nat} {σ : CS} {x y : Int} {Q : CS → Prop} (h01 : w0 ≠ w1) (h02 : w0 ≠ w2) (h12 : w1 ≠ w2) (hx : RpW σ w0 x) (hy : RpW σ w1 y) (hxc : x.natAbs < 2147483648 ^ capW w2)
    (hQ : ∀ σ', RpW σ' w2 (x.tdiv y) → RpW σ' w0 (x.tmod y) → Ch σ σ' (fun z => z = w0 ∨ z = w2) → Q σ') : wpX3_divide w0 w1 w2 σ Q := by
  show wpX3_divide_0 w0 w1 w2 Q σ
  unfold wpX3_divide_0
  refine sp_clear (fun σ1 hz2 hC1 => ?_)
  have hx1 := hx.ch hC1 h02
  have hy1 := hy.ch hC1 h12
  have hC1' : Ch σ σ1 (fun z => z = w0 ∨ z = w2) := hC1.mono (fun w h => Or.inr h)
  obtain ⟨n0, ⟨a1, a2, a3⟩, t0, m0, s0⟩ := hx1.raw
  obtain ⟨n1, ⟨b1, b2, b3⟩, t1, m1, s1⟩ := hy1.raw
  have hc0 := capW_le w0
  have hc1 := capW_le w1
  have hc2 := capW_le w2
  have hn0 : n0 ≤ capW w2 := rp_size a3 t0 (by rw [← m0]; exact hxc)
  intro d1 hd1
  rw [a1, b1] at hd1
  rw [b1, ofN]
  have hsmall : x.natAbs < y.natAbs ∨ y = 0 → Q σ1 := by
    intro h
    refine hQ σ1 ?_ ?_ hC1'
    · have e : x.tdiv y = 0 := by
        rcases h with h | h
        · have this : (x.tdiv y).natAbs = x.natAbs / y.natAbs := Int.natAbs_tdiv x y
          rw [Nat.div_eq_of_lt h] at this
          omega
        · rw [h, Int.tdiv_zero]
      rw [e]
      exact hz2
    · have e : x.tmod y = x := by
        have h1 := Int.tmod_def x y
        have e : x.tdiv y = 0 := by
          rcases h with h | h
          · have this : (x.tdiv y).natAbs = x.natAbs / y.natAbs := Int.natAbs_tdiv x y
            rw [Nat.div_eq_of_lt h] at this
            omega
          · rw [h, Int.tdiv_zero]
        rw [h1, e, Int.mul_zero, Int.sub_zero]
      rw [e]
      exact hx1
  refine ⟨fun h => ?_, fun h => ⟨fun h2 => ?_, fun h2 => ?_⟩⟩
  · have e : n1 = 0 := (nI_eq (a := n1) (b := 0) (by omega) (by omega)).mp (h.trans nI_0.symm)
    subst e
    exact hsmall (Or.inr (by have : mag (cF σ1 w1) 0 = 0 := rfl; omega))
  · have e : n0 < n1 := by
      rcases Nat.lt_or_ge n0 n1 with h3 | h3
      · exact h3
      · rw [hd1, pk_sub h3] at h2
        exact absurd h2 (nI_pos (by omega))
    obtain ⟨j, rfl⟩ : ∃ j, n1 = j + 1 := ⟨n1 - 1, by omega⟩
    have h3 := mag_ge b3 (t1 (by omega))
    have h4 := mag_lt (cF σ1 w0) n0
    have h5 := pow_mono (show n0 ≤ j by omega)
    exact hsmall (Or.inl (by omega))
  · have hn1 : n1 ≠ 0 := fun e => h (by rw [e]; exact nI_0)
    have hle : n1 ≤ n0 := by
      rcases Nat.lt_or_ge n0 n1 with h3 | h3
      · exact absurd (by rw [hd1]; exact pk_sneg (by omega) h3) h2
      · exact h3
    rw [pk_sub hle] at hd1
    subst hd1
    obtain ⟨k0, hk0⟩ : ∃ k0, k0 = n0 - n1 := ⟨_, rfl⟩
    rw [← hk0]
    refine pk_lt k0 (capW w2) (fun h3 => ?_) (fun h3 => absurd h3 (by omega)) rfl rfl (by omega) (by omega)
    have e1 : nI n1 - 1 = nI (n1 - 1) := pk_sub (b := 1) (by omega)
    rw [e1, nI_clamp (by omega), b3 (n1 - 1) (by omega)]
    refine ⟨pk_in (n1 - 1) _ (by omega), ?_⟩
    have hdt := dg_lt (cF σ1 w1) (n1 - 1)
    have hdt0 : 0 < dg (cF σ1 w1) (n1 - 1) := by
      rcases Nat.eq_zero_or_pos (dg (cF σ1 w1) (n1 - 1)) with e | e
      · exact absurd (by rw [b3 (n1 - 1) (by omega), e]; rfl) (t1 hn1)
      · exact e
    refine sp_nlz hdt0 hdt (fun k hk1 hk2 hk3 hk4 => ?_)
    intro u1 hu1
    rw [show nI k - 1 = nI (k - 1) from pk_sub (b := 1) hk1] at hu1
    obtain ⟨u, hu⟩ : ∃ u, u = k - 1 := ⟨_, rfl⟩
    rw [← hu] at hu1
    subst hu1
    obtain ⟨Y, hY⟩ : ∃ Y, Y = mag (cF σ1 w1) n1 := ⟨_, rfl⟩
    have hYlt : Y < 2147483648 ^ n1 := by rw [hY]; exact mag_lt _ _
    have hYpos : 0 < Y := by
      rw [hY]
      rcases Nat.eq_zero_or_pos (mag (cF σ1 w1) n1) with e | e
      · exact absurd ((mag_0 b3 t1).mp e) hn1
      · exact e
    have hYs : Y = mag (cF σ1 w1) (n1 - 1) + dg (cF σ1 w1) (n1 - 1) * 2147483648 ^ (n1 - 1) := by
      rw [hY]
      obtain ⟨j, rfl⟩ : ∃ j, n1 = j + 1 := ⟨n1 - 1, by omega⟩
      rfl
    generalize hdd : dg (cF σ1 w1) (n1 - 1) = d at *
    have hB31 : 2 ^ (31 - k) * 2 ^ u = 1073741824 := by rw [← Nat.pow_add, show 31 - k + u = 30 by omega]
    have hB32 : 2 ^ (32 - k) * 2 ^ u = 2147483648 := by rw [← Nat.pow_add, show 32 - k + u = 31 by omega]
    have hdu1 : 1073741824 ≤ d * 2 ^ u := by rw [← hB31]; exact Nat.mul_le_mul_right _ hk3
    have hdu2 : (d + 1) * 2 ^ u ≤ 2147483648 := by rw [← hB32]; exact Nat.mul_le_mul_right _ hk4
    have hPn : 0 < 2147483648 ^ (n1 - 1) := Nat.pow_pos (by omega)
    have hYu : Y * 2 ^ u < 2147483648 ^ n1 := by
      have h4 := mag_lt (cF σ1 w1) (n1 - 1)
      have h5 : Y < (d + 1) * 2147483648 ^ (n1 - 1) := by rw [Nat.succ_mul]; omega
      have h6 : Y * 2 ^ u < (d + 1) * 2147483648 ^ (n1 - 1) * 2 ^ u := Nat.mul_lt_mul_of_pos_right h5 (Nat.two_pow_pos u)
      have h7 : (d + 1) * 2 ^ u * 2147483648 ^ (n1 - 1) ≤ 2147483648 * 2147483648 ^ (n1 - 1) := Nat.mul_le_mul_right _ hdu2
      rw [Nat.mul_right_comm] at h7
      have h8 : (2147483648 : Nat) ^ n1 = 2147483648 * 2147483648 ^ (n1 - 1) := by
        rw [Nat.mul_comm, ← Nat.pow_succ]
        congr 1
        omega
      omega
    have hv1lt : Y * 2 ^ u / 2147483648 ^ (n1 - 1) < 2147483648 := by
      rw [Nat.div_lt_iff_lt_mul hPn, Nat.mul_comm 2147483648, ← Nat.pow_succ, show (n1 - 1).succ = n1 by omega]
      exact hYu
    have hv1ge : 1073741824 ≤ Y * 2 ^ u / 2147483648 ^ (n1 - 1) := by
      rw [Nat.le_div_iff_mul_le hPn]
      have h4 : d * 2147483648 ^ (n1 - 1) * 2 ^ u ≤ Y * 2 ^ u := Nat.mul_le_mul_right _ (by omega)
      have h5 : 1073741824 * 2147483648 ^ (n1 - 1) ≤ d * 2 ^ u * 2147483648 ^ (n1 - 1) := Nat.mul_le_mul_right _ hdu1
      rw [Nat.mul_right_comm] at h5
      omega
    have hV := two_dig (Z := Y * 2 ^ u) (m := n1) (by omega)
    obtain ⟨v1, hv1⟩ : ∃ v1, v1 = Y * 2 ^ u / 2147483648 ^ (n1 - 1) := ⟨_, rfl⟩
    obtain ⟨v2, hv2⟩ : ∃ v2, v2 = if n1 = 1 then 0 else (Y * 2 ^ u / 2147483648 ^ (n1 - 2)) % 2147483648 := ⟨_, rfl⟩
    rw [← hv1, ← hv2] at hV
    rw [← hv1] at hv1lt hv1ge
    have hv2lt : v2 < 2147483648 := by
      rw [hv2]
      split
      · omega
      · exact Nat.mod_lt _ (by omega)
    rw [b1, e1]
    refine sp_window (n := n1) ⟨b1, b2, b3⟩ (by omega) (by omega) ?_
    rw [← hY, ← hv1, Nat.mod_eq_of_lt hv1lt, b1]
    have hsec : ∀ Q2 : Int64 → CS → Prop, Q2 (lN v2) σ1 → wpX3_window w1 (nI n1 - 2) (nI u) σ1 Q2 := by
      intro Q2 hq2
      by_cases e : n1 = 1
      · rw [if_pos e] at hv2
        rw [hv2] at hq2
        exact sp_windowN (n := n1) ⟨b1, b2, b3⟩ (by omega) (by rw [e]; decide) hq2
      · rw [if_neg e] at hv2
        rw [show nI n1 - 2 = nI (n1 - 2) from pk_sub (b := 2) (by omega)]
        refine sp_window (n := n1) ⟨b1, b2, b3⟩ (by omega) (by omega) ?_
        rw [← hY, ← hv2]
        exact hq2
    refine hsec _ ?_
    clear hsec
    refine lq6_i (I := fun i3 i4 l5 l7 i9 τ => ∃ kk, i3 = nI k0 ∧ i4 = nI u ∧ l5 = lN v1 ∧ l7 = lN v2 ∧ i9 = nI kk - 1 ∧ kk ≤ k0 + 1 ∧ Raw τ w0 n0 ∧ mag (cF τ w0) n0 < Y * 2147483648 ^ kk ∧ (∀ i, kk ≤ i → i < k0 + 1 → cF τ w2 i = nI (dg (cF τ w2) i)) ∧ x.natAbs + mag (cF τ w2) kk * Y = mag (cF τ w0) n0 + mag (cF τ w2) (k0 + 1) * Y ∧ Ch σ1 τ (fun z => z = w0 ∨ z = w2) ∧ cG τ w0 = cG σ1 w0) (μ := fun _ _ _ _ i9 _ => (i9 + 1).toNatClampNeg) ?_ _ _ _ _ _ _ ⟨k0 + 1, rfl, rfl, rfl, rfl, (nI_pred k0).symm, Nat.le_refl _, ⟨a1, a2, a3⟩, ?_, fun i h4 h5 => absurd h5 (by omega), by rw [m0], Ch.refl σ1 _, rfl⟩
    · rintro N i3 i4 l5 l7 i9 τ ⟨kk, rfl, rfl, rfl, rfl, rfl, hkk, gR, gX, gD, gsum, gC, gG⟩ hN
      obtain ⟨c1, c2, c3⟩ := gC.1 w1 (fun e => e.elim (fun e => h01 e.symm) (fun e => h12 e))
      have gR1 : Raw τ w1 n1 := ⟨by rw [c2]; exact b1, b2, by rw [c1]; exact b3⟩
      have gY : mag (cF τ w1) n1 = Y := by rw [c1, hY]
      unfold wbX3_divide_84
      rcases Nat.eq_zero_or_pos kk with e | e
      · subst e
        refine ⟨fun _ => ?_, fun h4 => absurd (by decide) h4⟩
        rw [Nat.pow_zero, Nat.mul_one] at gX
        have gs2 : x.natAbs = mag (cF τ w0) n0 + mag (cF τ w2) (k0 + 1) * Y := by
          have : mag (cF τ w2) 0 = 0 := rfl
          rw [this, Nat.zero_mul] at gsum
          exact gsum
        have hyY : y.natAbs = Y := by rw [m1, hY]
        have hq : mag (cF τ w2) (k0 + 1) = x.natAbs / y.natAbs := by
          rw [hyY, gs2, Nat.add_mul_div_right _ _ hYpos, Nat.div_eq_of_lt gX, Nat.zero_add]
        have hr : mag (cF τ w0) n0 = x.natAbs % y.natAbs := by
          rw [hyY, gs2, Nat.add_mul_mod_self_right, Nat.mod_eq_of_lt gX]
        have eG : cG (sS τ w2 (nI k0 + 1)) w0 * cG (sS τ w2 (nI k0 + 1)) w1 = sg32 x * sg32 y := by
          rw [cG_sS, cG_sS, gG, c3, s0, s1]
        rw [eG, nI_1]
        refine sp_trimR (n := k0 + 1) (x := x.tdiv y) (by rw [cS_sG, cS_sS]) (by omega) ?_ ?_ (fun h4 => by rw [cG_sG]; exact sg_tdiv h4) (fun σ3 hr3 hC3 _ => ?_)
        · rw [cF_sG, cF_sS]
          exact fun i hi => gD i (by omega) hi
        · rw [cF_sG, cF_sS, hq]
          exact Int.natAbs_tdiv x y
        · have hCa : Ch τ σ3 (fun z => z = w2) := Ch.trans (Ch.sS τ w2 _) (Ch.trans (Ch.sG _ w2 _) hC3)
          obtain ⟨f1, f2, f3⟩ := hCa.1 w0 h02
          refine sp_trimR (n := n0) (x := x.tmod y) (by rw [f2]; exact gR.1) gR.2.1 (by rw [f1]; exact gR.2.2) (by rw [f1, hr, Int.natAbs_tmod]) (fun h4 => by rw [f3, gG, s0]; exact sg_tmod h4) (fun σ5 hr5 hC5 _ => ?_)
          refine hQ σ5 (hr3.ch hC5 (fun e => h02 e.symm)) hr5 ?_
          exact hC1'.trans (gC.trans ((hCa.mono (fun w h => Or.inr h)).trans (hC5.mono (fun w h => Or.inl h))))
      · obtain ⟨at_, rfl⟩ : ∃ at_, kk = at_ + 1 := ⟨kk - 1, by omega⟩
        rw [nI_pred]
        refine ⟨fun h4 => absurd h4 (nI_pos (by omega)), fun _ => ?_⟩
        intro a6 ha6
        rw [c2, b1, nI_add] at ha6
        subst ha6
        obtain ⟨X, hXe⟩ : ∃ X, X = mag (cF τ w0) n0 := ⟨_, rfl⟩
        obtain ⟨Z, hZ⟩ : ∃ Z, Z = X * 2 ^ u := ⟨_, rfl⟩
        have hPa : 0 < 2147483648 ^ at_ := Nat.pow_pos (by omega)
        have hZlt : Z < 2147483648 ^ (at_ + n1 + 1) := by
          have h4 : X * 2 ^ u < Y * 2147483648 ^ (at_ + 1) * 2 ^ u := Nat.mul_lt_mul_of_pos_right (by rw [hXe]; exact gX) (Nat.two_pow_pos u)
          have h5 : Y * 2 ^ u * 2147483648 ^ (at_ + 1) ≤ 2147483648 ^ n1 * 2147483648 ^ (at_ + 1) := Nat.mul_le_mul_right _ (Nat.le_of_lt hYu)
          rw [Nat.mul_right_comm, ← Nat.pow_add, show n1 + (at_ + 1) = at_ + n1 + 1 by omega] at h5
          omega
        have hU := two_dig (Z := Z) (m := at_ + n1) (by omega)
        have hL := lead_dig (Z := Z) (m := at_ + n1) (by omega) hZlt
        obtain ⟨nx, hnx⟩ : ∃ nx, nx = if at_ + n1 = 1 then 0 else (Z / 2147483648 ^ (at_ + n1 - 2)) % 2147483648 := ⟨_, rfl⟩
        obtain ⟨ov, hov⟩ : ∃ ov, ov = Z / 2147483648 ^ (at_ + n1 - 1) := ⟨_, rfl⟩
        rw [← hnx, ← hov] at hU
        have hnxlt : nx < 2147483648 := by
          rw [hnx]
          split
          · omega
          · exact Nat.mod_lt _ (by omega)
        have hovlt : ov < 4611686018427387904 := by
          rw [hov, Nat.div_lt_iff_lt_mul (Nat.pow_pos (by omega)), show (4611686018427387904 : Nat) = 2147483648 ^ 2 from rfl, ← Nat.pow_add, show 2 + (at_ + n1 - 1) = at_ + n1 + 1 by omega]
          exact hZlt
        refine sp_window (n := n0) gR (by omega) (by omega) ?_
        rw [← hXe, ← hZ, show nI (at_ + n1) - 1 = nI (at_ + n1 - 1) from pk_sub (b := 1) (by omega)]
        refine sp_window (n := n0) gR (by omega) (by omega) ?_
        rw [← hXe, ← hZ]
        intro b11 hb11
        rw [lor31 (Nat.mod_lt _ (by omega)) (Nat.mod_lt _ (by omega)), hL, ← hov] at hb11
        subst hb11
        have hthird : ∀ Q2 : Int64 → CS → Prop, Q2 (lN nx) τ → wpX3_window w0 (nI (at_ + n1) - 2) (nI u) τ Q2 := by
          intro Q2 hq2
          by_cases e9 : at_ + n1 = 1
          · rw [if_pos e9] at hnx
            rw [hnx] at hq2
            exact sp_windowN (n := n0) gR (by omega) (by rw [e9]; decide) hq2
          · rw [if_neg e9] at hnx
            rw [show nI (at_ + n1) - 2 = nI (at_ + n1 - 2) from pk_sub (b := 2) (by omega)]
            refine sp_window (n := n0) gR (by omega) (by omega) ?_
            rw [← hXe, ← hZ, ← hnx]
            exact hq2
        refine hthird _ ?_
        clear hthird
        refine sp_guess hovlt hnxlt hv1ge hv1lt hv2lt (fun t htB ht1 ht2 => ?_)
        rw [← hU, ← hV] at ht1 ht2
        obtain ⟨q, hq⟩ : ∃ q, q = X / (Y * 2147483648 ^ at_) := ⟨_, rfl⟩
        have hYP : 0 < Y * 2147483648 ^ at_ := Nat.mul_pos hYpos hPa
        obtain ⟨hq1, hq2⟩ := div_bd X (Y * 2147483648 ^ at_) hYP
        rw [← hq] at hq1 hq2
        have hqB : q < 2147483648 := by
          rw [hq, Nat.div_lt_iff_lt_mul hYP, Nat.mul_comm, Nat.mul_assoc, ← Nat.pow_succ, hXe]
          exact gX
        have hVbig : 2147483648 ≤ Y * 2 ^ u * 2147483648 ^ 2 / 2147483648 ^ n1 := by
          rw [hV]
          omega
        have hkn := knuth (X := Z * 2147483648 ^ 2) (Y := Y * 2 ^ u * 2147483648 ^ 2) (P := 2147483648 ^ at_) (q := q) (t := t) (U := Z * 2147483648 ^ 2 / 2147483648 ^ (at_ + n1)) (V := Y * 2 ^ u * 2147483648 ^ 2 / 2147483648 ^ n1) (B := 2147483648) (S := 2147483648 ^ n1)
          (by
            have h4 : q * (Y * 2147483648 ^ at_) * (2 ^ u * 2147483648 ^ 2) ≤ X * (2 ^ u * 2147483648 ^ 2) := Nat.mul_le_mul_right _ hq1
            rw [hZ]
            generalize 2147483648 ^ at_ = P at *
            generalize 2147483648 ^ 2 = B2 at *
            generalize 2 ^ u = T at *
            clear hN
            grind)
          (by
            have h4 : X * (2 ^ u * 2147483648 ^ 2) < (q + 1) * (Y * 2147483648 ^ at_) * (2 ^ u * 2147483648 ^ 2) := Nat.mul_lt_mul_of_pos_right hq2 (Nat.mul_pos (Nat.two_pow_pos u) (by decide))
            rw [hZ]
            generalize 2147483648 ^ at_ = P at *
            generalize 2147483648 ^ 2 = B2 at *
            generalize 2 ^ u = T at *
            clear hN
            grind)
          hqB hPa (Nat.pow_pos (by omega)) (div_bd _ _ (Nat.pow_pos (by omega))).1 (div_bd _ _ (Nat.pow_pos (by omega))).2
          (by rw [← Nat.pow_add, Nat.add_comm n1]; exact (div_bd _ _ (Nat.pow_pos (by omega))).1)
          (by rw [← Nat.pow_add, Nat.add_comm n1]; exact (div_bd _ _ (Nat.pow_pos (by omega))).2)
          hVbig ht1 ht2
        clear hU hV ht1 ht2 hVbig hL hZlt hovlt
        have hfin : ∀ τ2, Raw τ2 w0 n0 → mag (cF τ2 w0) n0 + q * (Y * 2147483648 ^ at_) = X → Ch τ τ2 (fun z => z = w0) → cG τ2 w0 = cG τ w0 → wpX3_divide_175 w0 w1 w2 Q N (nI k0) (nI u) (lN v1) (lN v2) (nI at_) (lN q) τ2 := by
          intro τ2 hR2 hm2 hC2 hG2
          unfold wpX3_divide_175
          refine ⟨pk_in at_ _ (by omega), fun z1 hz1 => ?_⟩
          rw [lN_i]
          subst hz1
          obtain ⟨f1, f2, f3⟩ := hC2.1 w2 (fun e => h02 e.symm)
          have e4 : cF (sFi τ2 w2 (nI at_) (nI q)) w2 = upd (cF τ w2) at_ (nI q) := by rw [cF_sFi, nI_clamp (by omega), f1]
          have e5 : cF (sFi τ2 w2 (nI at_) (nI q)) w0 = cF τ2 w0 := cF_sFi_ne h02
          refine hN _ _ _ _ _ _ ⟨at_, rfl, rfl, rfl, rfl, (Int32.sub_eq_add_neg _ _).symm, by omega, ⟨by rw [cS_sFi]; exact hR2.1, hR2.2.1, by rw [e5]; exact hR2.2.2⟩, ?_, ?_, ?_, ?_, ?_⟩ ?_
          · rw [e5]
            rw [Nat.succ_mul] at hq2
            omega
          · intro i h4 h5
            rw [e4]
            by_cases e6 : i = at_
            · subst e6
              rw [dg_nI (d := q) (upd_e _ _ _) hqB]
              exact upd_e _ _ _
            · have : dg (upd (cF τ w2) at_ (nI q)) i = dg (cF τ w2) i := by unfold dg; rw [upd_n e6]
              rw [this, upd_n e6]
              exact gD i (by omega) h5
          · rw [e4, e5]
            have h7 := mag_set (F := cF τ w2) (m := at_) (e := k0 + 1) (r := q) (by omega) hqB
            have h8 : mag (upd (cF τ w2) at_ (nI q)) at_ = mag (cF τ w2) at_ := mag_congr (fun i hi => upd_n (by omega))
            rw [h8]
            rw [mag_s, ← hXe, ← hm2] at gsum
            generalize mag (upd (cF τ w2) at_ (nI q)) (k0 + 1) = A at *
            generalize mag (cF τ w2) (k0 + 1) = A2 at *
            generalize mag (cF τ w2) at_ = A3 at *
            generalize dg (cF τ w2) at_ = d9 at *
            generalize 2147483648 ^ at_ = P at *
            generalize mag (cF τ2 w0) n0 = M at *
            have h9 : A * Y + d9 * P * Y = A2 * Y + q * P * Y := by rw [← Nat.add_mul, ← Nat.add_mul, h7]
            have h10 : q * (Y * P) = q * P * Y := by rw [Nat.mul_comm Y, Nat.mul_assoc]
            rw [h10, Nat.add_mul] at gsum
            clear hN
            omega
          · refine gC.trans ((hC2.mono (fun w h => Or.inl h)).trans ((Ch.sFi τ2 w2 _ _).mono (fun w h => Or.inr h)))
          · rw [cG_sFi, hG2, gG]
          · show (nI at_ + -1 + 1 : Int32).toNatClampNeg < (nI (at_ + 1) - 1 + 1 : Int32).toNatClampNeg
            rw [nI_pred, Int32.add_assoc, show (-1 + 1 : Int32) = 0 by decide, Int32.add_zero, nI_1, nI_clamp (by omega), nI_clamp (by omega)]
            omega
        rw [lg0, lN_inj0 (by omega)]
        refine ⟨fun ht0 => ?_, fun ht0 => ?_⟩
        · have hq0 : q = 0 := by omega
          rw [ht0]
          have := hfin τ gR (by rw [hq0, Nat.zero_mul, hXe]; rfl) (Ch.refl τ _) rfl
          rw [hq0] at this
          exact this
        · have hEle : 2147483648 ^ (at_ + n1) ≤ 2147483648 ^ (min (at_ + n1 + 1) n0) := pow_mono (by omega)
          have hYPlt : Y * 2147483648 ^ at_ < 2147483648 ^ (at_ + n1) := by
            rw [Nat.pow_add, Nat.mul_comm (2147483648 ^ at_)]
            exact Nat.mul_lt_mul_of_pos_right hYlt hPa
          have hXE : X < 2147483648 ^ (min (at_ + n1 + 1) n0) := by
            rcases Nat.le_total (at_ + n1 + 1) n0 with h4 | h4
            · rw [Nat.min_eq_left h4]
              have h5 : Y * 2147483648 ^ (at_ + 1) < 2147483648 ^ n1 * 2147483648 ^ (at_ + 1) := Nat.mul_lt_mul_of_pos_right hYlt (Nat.pow_pos (by omega))
              rw [← Nat.pow_add, show n1 + (at_ + 1) = at_ + n1 + 1 by omega] at h5
              omega
            · rw [Nat.min_eq_right h4, hXe]
              exact mag_lt _ _
          have htY : t * Y * 2147483648 ^ at_ = t * (Y * 2147483648 ^ at_) := Nat.mul_assoc _ _ _
          have htle : t * (Y * 2147483648 ^ at_) ≤ (q + 1) * (Y * 2147483648 ^ at_) := Nat.mul_le_mul_right _ hkn.2
          have hqle : q * (Y * 2147483648 ^ at_) ≤ t * (Y * 2147483648 ^ at_) := Nat.mul_le_mul_right _ hkn.1
          have hq1s : (q + 1) * (Y * 2147483648 ^ at_) = q * (Y * 2147483648 ^ at_) + Y * 2147483648 ^ at_ := Nat.succ_mul _ _
          refine sp_takes (E := min (at_ + n1 + 1) n0) gR gR1 h01 (by omega) htB rfl (by rw [← hXe]; exact hXE) (by rw [← hXe, gY, htY]; omega) (fun τ2 hR2 hm2 hC2 hG2 => ?_)
          rw [← hXe, gY, htY] at hm2 ⊢
          have hcase : t = q ∨ t = q + 1 := by omega
          by_cases hflag : X < t * (Y * 2147483648 ^ at_)
          · rw [if_pos hflag] at hm2 ⊢
            have ht' : t = q + 1 := by
              rcases hcase with h4 | h4
              · rw [h4] at hflag
                omega
              · exact h4
            refine ⟨fun h4 => absurd h4 (by decide), fun _ => ?_⟩
            obtain ⟨f1, f2, f3⟩ := hC2.1 w1 (fun e => h01 e.symm)
            have gR12 : Raw τ2 w1 n1 := ⟨by rw [f2]; exact gR1.1, gR1.2.1, by rw [f1]; exact gR1.2.2⟩
            rw [ht', hq1s] at hm2 hflag
            refine sp_give (E := min (at_ + n1 + 1) n0) hR2 gR12 h01 (by omega) rfl (by omega) (by rw [f1, gY]; omega) (fun τ3 hR3 hm3 hC3 hG3 => ?_)
            rw [f1, gY] at hm3
            intro b20 hb20
            rw [ht', show lN (q + 1) - (1 : Int64) = lN q from lN_sub (a := q + 1) (b := 1) (by omega)] at hb20
            subst hb20
            exact hfin τ3 hR3 (by omega) (hC2.trans hC3) (by rw [hG3, hG2])
          · rw [if_neg hflag] at hm2 ⊢
            have ht' : t = q := by
              rcases hcase with h4 | h4
              · exact h4
              · rw [h4, hq1s] at hflag
                omega
            refine ⟨fun _ => ?_, fun h4 => absurd rfl h4⟩
            rw [ht'] at hm2 ⊢
            exact hfin τ2 hR2 (by omega) hC2 hG2
    · have h4 := mag_lt (cF σ1 w0) n0
      have h5 : 2147483648 ^ (n1 - 1) ≤ Y := by
        rw [hYs]
        have : 1 * 2147483648 ^ (n1 - 1) ≤ d * 2147483648 ^ (n1 - 1) := Nat.mul_le_mul_right _ hdt0
        omega
      have h6 : 2147483648 ^ (n1 - 1) * 2147483648 ^ (k0 + 1) ≤ Y * 2147483648 ^ (k0 + 1) := Nat.mul_le_mul_right _ h5
      rw [← Nat.pow_add, show n1 - 1 + (k0 + 1) = n0 by omega] at h6
      omega
