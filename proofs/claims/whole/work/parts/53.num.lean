/-! PURE: plus, scale -/
theorem sp_plus {w0 w1 : Nat} {x2 : Int32} {σ : CS} {x y s : Int} {Q : CS → Prop} (hne : w0 ≠ w1) (hx : RpW σ w0 x) (hy : RpW σ w1 y) (hs : s = if 0 ≤ x2 then y else -y) (hyc : y.natAbs < 2147483648 ^ capW w0) (hxc : (x + s).natAbs < 2147483648 ^ capW w0)
    (hQ : ∀ σ', RpW σ' w0 (x + s) → Ch σ σ' (fun z => z = w0) → Q σ') : wpX3_plus w0 w1 x2 σ Q := by
  obtain ⟨n0, r0, t0, m0, s0⟩ := hx.raw
  obtain ⟨n1, r1, t1, m1, s1⟩ := hy.raw
  have hn1 : n1 ≤ capW w0 := rp_size r1.2.2 t1 (by rw [← m1]; exact hyc)
  have hsa : s.natAbs = y.natAbs := by
    rw [hs]
    split
    · rfl
    · omega
  have key : wpX3_plus_17 w0 w1 x2 Q (sg32 s) σ := by
    unfold wpX3_plus_17
    have hjoin : (x = 0 ∨ sg32 x = sg32 s) → s ≠ 0 → wpX3_plus_37 w0 w1 x2 Q (sg32 s) σ := by
      intro hxs hs0
      have hadd : (x + s).natAbs = x.natAbs + y.natAbs := by
        rcases hxs with h | h
        · subst h; omega
        · have := sg32_iff h
          omega
      have hsg : sg32 (x + s) = sg32 s := by
        rcases hxs with h | h
        · subst h; rw [Int.zero_add]
        · have := sg32_iff h
          unfold sg32
          by_cases h1 : s < 0
          · rw [if_pos h1, if_pos (by omega)]
          · rw [if_neg h1, if_neg hs0, if_neg (by omega), if_neg (by omega)]
      unfold wpX3_plus_37
      refine sp_join (σ := sG σ w0 (sg32 s)) (n0 := n0) (n1 := n1) r0 r1 hne hn1 ?_ (fun σ' n' hr' hm' hg' hc' => ?_)
      · show mag (cF σ w0) n0 + mag (cF σ w1) n1 < _
        omega
      · unfold wpX3_plus_78
        refine sp_trimR (x := x + s) hr'.1 hr'.2.1 hr'.2.2 ?_ (fun _ => ?_) (fun σ2 hr2 hc2 _ => hQ σ2 hr2 ((Ch.sG σ w0 _).trans (hc'.trans hc2)))
        · rw [hm']
          show _ = mag (cF σ w0) n0 + mag (cF σ w1) n1
          omega
        · rw [hg', cG_sG, hsg]
    refine ⟨fun h0 => ⟨fun h1 => ?_, fun h1 => ⟨fun h2 => ?_, fun h2 => ?_⟩⟩, fun h0 => ?_⟩
    · have hs0 : s ≠ 0 := fun e => h0 (sg32_eq0.mpr e)
      rw [s0] at h1
      exact hjoin (Or.inl (sg32_eq0.mp h1)) hs0
    · have hs0 : s ≠ 0 := fun e => h0 (sg32_eq0.mpr e)
      rw [s0] at h1 h2
      have hx0 : x ≠ 0 := fun e => h1 (sg32_eq0.mpr e)
      have hop : (x < 0 ∧ 0 < s) ∨ (0 < x ∧ s < 0) := by
        rcases Int.lt_trichotomy x 0 with a | a | a <;> rcases Int.lt_trichotomy s 0 with b | b | b
        · exact absurd (by rw [sg32_lt a, sg32_lt b]) h2
        · exact absurd b hs0
        · exact Or.inl ⟨a, b⟩
        · exact absurd a hx0
        · exact absurd a hx0
        · exact absurd a hx0
        · exact Or.inr ⟨a, b⟩
        · exact absurd b hs0
        · exact absurd (by rw [sg32_pos a, sg32_pos b]) h2
      refine sp_compareAbs hx hy ⟨fun hr => ?_, fun hr => ?_⟩
      · have hlt := cmp32_lt.mp hr
        have hn01 : n0 ≤ n1 := rp_size r0.2.2 t0 (by have := mag_lt (cF σ w1) n1; omega)
        refine sp_differ (σ := sG σ w0 (sg32 s)) (n1 := n1) (n2 := n0) r1 r0 (Or.inr rfl) hn1 hn01 ?_ (fun σ' n' hr' hm' hg' hc' => ?_)
        · show mag (cF σ w0) n0 ≤ mag (cF σ w1) n1
          omega
        · unfold wpX3_plus_78
          refine sp_trimR (x := x + s) hr'.1 hr'.2.1 hr'.2.2 ?_ (fun _ => ?_) (fun σ2 hr2 hc2 _ => hQ σ2 hr2 ((Ch.sG σ w0 _).trans (hc'.trans hc2)))
          · rw [hm']
            show _ = mag (cF σ w1) n1 - mag (cF σ w0) n0
            omega
          · rw [hg', cG_sG]
            rcases hop with ⟨a, b⟩ | ⟨a, b⟩
            · rw [sg32_pos b, sg32_pos (by omega)]
            · rw [sg32_lt b, sg32_lt (by omega)]
      · have hge : y.natAbs ≤ x.natAbs := by
          rcases Nat.lt_or_ge x.natAbs y.natAbs with h | h
          · exact absurd (cmp32_lt.mpr h) hr
          · exact h
        have hn10 : n1 ≤ n0 := rp_size r1.2.2 t1 (by have := mag_lt (cF σ w0) n0; omega)
        refine sp_differ (n1 := n0) (n2 := n1) r0 r1 (Or.inl rfl) r0.2.1 hn10 (by omega) (fun σ' n' hr' hm' hg' hc' => ?_)
        unfold wpX3_plus_78
        refine sp_trimR (x := x + s) hr'.1 hr'.2.1 hr'.2.2 (by rw [hm']; omega) (fun h9 => ?_) (fun σ2 hr2 hc2 _ => hQ σ2 hr2 (hc'.trans hc2))
        rw [hg', s0]
        rcases hop with ⟨a, b⟩ | ⟨a, b⟩
        · rw [sg32_lt a, sg32_lt (by omega)]
        · rw [sg32_pos a, sg32_pos (by omega)]
    · have hs0 : s ≠ 0 := fun e => h0 (sg32_eq0.mpr e)
      rw [s0] at h2
      exact hjoin (Or.inr h2) hs0
    · have hs0 : s = 0 := sg32_eq0.mp h0
      refine hQ σ ?_ (Ch.refl σ _)
      rw [hs0, Int.add_zero]
      exact hx
  show wpX3_plus_0 w0 w1 x2 Q σ
  unfold wpX3_plus_0
  rw [s1]
  refine ⟨fun h a ha => ?_, fun h a ha => ?_⟩
  · rw [if_pos h] at hs
    rw [ha, ← hs]
    exact key
  · rw [if_neg h] at hs
    rw [ha, ← sg32_neg, ← hs]
    exact key
/-! Int64 -/
theorem lg0 {x : Int64} : lg_cmp x 0 = 0 ↔ x = 0 := by
  unfold lg_cmp
  by_cases h : x > 0
  · rw [if_pos h]
    constructor
    · intro e; exact absurd e (by decide)
    · intro e; subst e; exact absurd h (by decide)
  · rw [if_neg h]
    by_cases h2 : x = 0
    · rw [if_pos h2]; simp [h2]
    · rw [if_neg h2]; simp [h2]
theorem lN_0 : lN 0 = 0 := rfl
theorem lN_inj0 {c : Nat} (hc : c < 2 ^ 63) : lN c = 0 ↔ c = 0 := by
  rw [← lN_0, pk_lEQ hc (by decide)]
theorem lsh31 {n : Nat} (hn : n < 2 ^ 64) : jlushr (lN n) (31 : Int32) = lN (n / 2147483648) := wb_shr (k := 31) hn (by decide)
theorem lmask31 {n : Nat} (hn : n < 2 ^ 64) : (lN n &&& (2147483647 : Int64)).toInt32 = nI (n % 2147483648) := by
  have h : lN n &&& (2147483647 : Int64) = lN (n % 2147483648) := wb_mask (k := 31) hn (by decide)
  rw [h, lN_i]
theorem top_nz {f : Nat → Int32} {n : Nat} (ho : okd f n) (h : n ≠ 0 → 2147483648 ^ (n - 1) ≤ mag f n) : n ≠ 0 → f (n - 1) ≠ 0 := by
  intro h0 he
  have h1 := h h0
  obtain ⟨m, rfl⟩ : ∃ m, n = m + 1 := ⟨n - 1, by omega⟩
  rw [Nat.add_sub_cancel] at h1 he
  have h2 := mag_lt f m
  rw [mag_s, dg_nI (d := 0) (by rw [he]; exact nI_0.symm) (by omega)] at h1
  omega
theorem Ch1.sFi {σ τ : CS} {w : Nat} (h : Ch σ τ (fun z => z = w)) (i x : Int32) : Ch σ (sFi τ w i x) (fun z => z = w) := h.trans (Ch.sFi τ w i x)
theorem Ch1.sS {σ τ : CS} {w : Nat} (h : Ch σ τ (fun z => z = w)) (v : Int32) : Ch σ (sS τ w v) (fun z => z = w) := h.trans (Ch.sS τ w v)
theorem Ch1.sG {σ τ : CS} {w : Nat} (h : Ch σ τ (fun z => z = w)) (v : Int32) : Ch σ (sG τ w v) (fun z => z = w) := h.trans (Ch.sG τ w v)
theorem sp_scale {w : Nat} {y1 : Int64} {σ : CS} {x t : Int} {Q : CS → Prop} (hx : RpW σ w x) (hy : y1.toInt = t) (ht : t.natAbs ≤ 2147483648) (hc : (x * t).natAbs < 2147483648 ^ capW w)
    (hQ : ∀ σ', RpW σ' w (x * t) → Ch σ σ' (fun z => z = w) → Q σ') : wpX3_scale w y1 σ Q := by
  obtain ⟨n, r0, t0, m0, s0⟩ := hx.raw
  have hcap := capW_le w
  obtain ⟨r1, r2, r3⟩ := r0
  obtain ⟨X, hX⟩ : ∃ X, X = x.natAbs * t.natAbs := ⟨_, rfl⟩
  have hXn : (x * t).natAbs = X := by rw [hX, Int.natAbs_mul]
  have hend : t ≠ 0 → ∀ τ m, cS τ w = nI m → m ≤ capW w → okd (cF τ w) m → mag (cF τ w) m = X → (m ≠ 0 → 2147483648 ^ (m - 1) ≤ X) → cG τ w = cG σ w → Ch σ τ (fun z => z = w) → wpX3_scale_136 w y1 Q τ := by
    intro ht0 τ m h1 h2 h3 h4 h5 h6 h7
    have htop := top_nz h3 (fun h => by rw [h4]; exact h5 h)
    unfold wpX3_scale_136
    rw [h6, s0, lg_cmp_ge, Int64.le_iff_toInt_le, hy]
    refine ⟨fun h => ?_, fun h => ?_⟩
    · have h' : 0 < t := by
        have : (0 : Int) ≤ t := h
        omega
      refine hQ _ ⟨m, h2, h1, h3, htop, by rw [hXn]; exact h4.symm, ?_⟩ (Ch1.sG h7 _)
      rw [cG_sG]
      rcases Int.lt_trichotomy x 0 with a | a | a
      · rw [sg32_lt a, sg32_lt (Int.mul_neg_of_neg_of_pos a h')]
      · rw [a, Int.zero_mul]
      · rw [sg32_pos a, sg32_pos (Int.mul_pos a h')]
    · have h' : t < 0 := by
        have : ¬ (0 : Int) ≤ t := h
        omega
      refine hQ _ ⟨m, h2, h1, h3, htop, by rw [hXn]; exact h4.symm, ?_⟩ (Ch1.sG h7 _)
      rw [cG_sG]
      rcases Int.lt_trichotomy x 0 with a | a | a
      · rw [sg32_lt a, sg32_pos (Int.mul_pos_of_neg_of_neg a h')]
        rfl
      · rw [a, Int.zero_mul]
        rfl
      · rw [sg32_pos a, sg32_lt (Int.mul_neg_of_pos_of_neg a h')]
  have hmain : t ≠ 0 → wpX3_scale_24 w y1 Q (lN t.natAbs) σ := by
    intro ht0
    have hX0 : n ≠ 0 → 2147483648 ^ (n - 1) ≤ X := by
      intro hn
      obtain ⟨k, rfl⟩ : ∃ k, n = k + 1 := ⟨n - 1, by omega⟩
      have h1 := mag_ge r3 (t0 (by omega))
      rw [hX, m0, Nat.add_sub_cancel]
      exact Nat.le_trans h1 (Nat.le_mul_of_pos_right _ (by omega))
    unfold wpX3_scale_24
    refine lq4_i (I := fun l3 l5 i7 τ => ∃ k c, l3 = lN t.natAbs ∧ l5 = lN c ∧ i7 = nI k ∧ k ≤ n ∧ c ≤ 2147483648 ∧ cS τ w = nI n ∧ (∀ j, k ≤ j → cF τ w j = cF σ w j) ∧ okd (cF τ w) k ∧ mag (cF τ w) k + c * 2147483648 ^ k = mag (cF σ w) k * t.natAbs ∧ cG τ w = cG σ w ∧ Ch σ τ (fun z => z = w)) (μ := fun _ _ i7 _ => n - i7.toNatClampNeg) ?_ _ _ _ _ ⟨0, 0, rfl, rfl, rfl, by omega, by omega, r1, fun _ _ => rfl, fun i hi => absurd hi (by omega), by show 0 + 0 * _ = 0 * _; omega, rfl, Ch.refl σ _⟩
    rintro N l3 l5 i7 τ ⟨k, c, rfl, rfl, rfl, hk, hcc, hS, hF, hFo, hsum, hG, hC⟩ hN
    unfold wbX3_scale_30
    rw [hS]
    refine pk_le n k (fun h => ?_) (fun h => ?_) rfl rfl (by omega) (by omega)
    · have hke : k = n := by omega
      subst hke
      rw [← m0, ← hX] at hsum
      refine lq2_i (I := fun l5 τ => ∃ m c, l5 = lN c ∧ c ≤ 2147483648 ∧ cS τ w = nI m ∧ m ≤ capW w ∧ okd (cF τ w) m ∧ mag (cF τ w) m + c * 2147483648 ^ m = X ∧ (m ≠ 0 → 2147483648 ^ (m - 1) ≤ X) ∧ cG τ w = cG σ w ∧ Ch σ τ (fun z => z = w)) (μ := fun l5 _ => l5.toInt.toNat) ?_ _ _ ⟨k, c, rfl, hcc, hS, r2, hFo, hsum, hX0, hG, hC⟩
      rintro N2 l5 τ2 ⟨m, c2, rfl, hc2, gS, gm, gFo, gsum, gX, gG, gC⟩ hN2
      unfold wbX3_scale_81
      rw [lg0, lN_inj0 (by omega), gS, ofN]
      refine ⟨fun h2 => ?_, fun h2 => ?_⟩
      · subst h2
        exact hend ht0 τ2 m gS gm gFo (by omega) gX gG gC
      · refine pk_le (capW w) m (fun h3 => ?_) (fun h3 => ⟨pk_in m _ h3, fun b1 hb1 => ?_⟩) rfl rfl (by omega) (by omega)
        · exfalso
          have hm : m = capW w := by omega
          have h4 : 1 * 2147483648 ^ m ≤ c2 * 2147483648 ^ m := Nat.mul_le_mul_right _ (by omega)
          rw [hm] at h4 gsum
          omega
        · rw [lsh31 (by omega)] at hb1
          subst hb1
          rw [lmask31 (by omega), cS_sFi, gS, nI_1]
          have e1 : cF (sFi τ2 w (nI m) (nI (c2 % 2147483648))) w = upd (cF τ2 w) m (nI (c2 % 2147483648)) := by rw [cF_sFi, nI_clamp (by omega)]
          have hmod : c2 % 2147483648 < 2147483648 := Nat.mod_lt _ (by omega)
          refine hN2 _ _ ⟨m + 1, c2 / 2147483648, rfl, by omega, by rw [cS_sS], by omega, ?_, ?_, ?_, ?_, Ch1.sS (Ch1.sFi gC _ _) _⟩ ?_
          · rw [cF_sS, e1]
            exact okd_up gFo hmod
          · rw [cF_sS, e1, mag_up hmod, Nat.pow_succ, ← gsum]
            have h5 : c2 * 2147483648 ^ m = (c2 % 2147483648 + c2 / 2147483648 * 2147483648) * 2147483648 ^ m := by
              congr 1
              omega
            rw [h5, Nat.add_mul, Nat.mul_assoc, Nat.mul_comm 2147483648]
            omega
          · intro _
            rw [Nat.add_sub_cancel]
            have h4 : 1 * 2147483648 ^ m ≤ c2 * 2147483648 ^ m := Nat.mul_le_mul_right _ (by omega)
            omega
          · exact gG
          · show (lN (c2 / 2147483648)).toInt.toNat < (lN c2).toInt.toNat
            rw [pk_lT (by omega), pk_lT (by omega)]
            omega
    · refine ⟨pk_in k _ (by omega), fun b2 hb2 => ⟨pk_in k _ (by omega), fun b3 hb3 a4 ha4 => ?_⟩⟩
      have hd := dg_lt (cF σ w) k
      rw [nI_clamp (by omega), hF k (Nat.le_refl k), r3 k h, nI_l (by omega), lN_mul, lN_add] at hb2
      have hle : dg (cF σ w) k * t.natAbs ≤ 2147483647 * 2147483648 := Nat.mul_le_mul (by omega) ht
      rw [hb2] at hb3 ⊢
      rw [lsh31 (by omega)] at hb3
      rw [nI_1] at ha4
      subst hb3 ha4
      rw [lmask31 (by omega)]
      have e1 : cF (sFi τ w (nI k) (nI ((dg (cF σ w) k * t.natAbs + c) % 2147483648))) w = upd (cF τ w) k (nI ((dg (cF σ w) k * t.natAbs + c) % 2147483648)) := by rw [cF_sFi, nI_clamp (by omega)]
      have hmod : (dg (cF σ w) k * t.natAbs + c) % 2147483648 < 2147483648 := Nat.mod_lt _ (by omega)
      refine hN _ _ _ _ ⟨k + 1, (dg (cF σ w) k * t.natAbs + c) / 2147483648, rfl, rfl, rfl, by omega, by omega, by rw [cS_sFi]; exact hS, fun j hj => ?_, ?_, ?_, hG, Ch1.sFi hC _ _⟩ ?_
      · rw [e1, upd_n (by omega)]
        exact hF j (by omega)
      · rw [e1]
        exact okd_up hFo hmod
      · rw [e1, mag_up hmod, mag_s, Nat.pow_succ, Nat.add_mul, ← hsum]
        generalize hu : dg (cF σ w) k * t.natAbs = u at *
        have h5 : dg (cF σ w) k * 2147483648 ^ k * t.natAbs = u * 2147483648 ^ k := by rw [← hu, Nat.mul_right_comm]
        rw [h5]
        have h6 : (u + c) * 2147483648 ^ k = ((u + c) % 2147483648 + (u + c) / 2147483648 * 2147483648) * 2147483648 ^ k := by
          congr 1
          omega
        rw [Nat.add_mul, Nat.add_mul, Nat.mul_assoc, Nat.mul_comm 2147483648] at h6
        omega
      · show n - (nI (k + 1)).toNatClampNeg < n - (nI k).toNatClampNeg
        rw [nI_clamp (by omega), nI_clamp (by omega)]
        omega
  show wpX3_scale_0 w y1 Q σ
  unfold wpX3_scale_0
  rw [lg0]
  refine ⟨fun h0 => ?_, fun h0 => ?_⟩
  · have ht0 : t ≠ 0 := by
      intro e
      apply h0
      apply Int64.toInt_inj.mp
      rw [hy, e]
      rfl
    have hm := hmain ht0
    rw [lg_cmp_ge, Int64.le_iff_toInt_le, hy]
    refine ⟨fun h => ?_, fun h b5 hb5 => ?_⟩
    · have e : y1 = lN t.natAbs := by
        apply Int64.toInt_inj.mp
        rw [hy, pk_lT (by omega)]
        have : (0 : Int) ≤ t := h
        omega
      rw [← e] at hm
      exact hm
    · have h' : t < 0 := by
        have : ¬ (0 : Int) ≤ t := h
        omega
      have e : b5 = lN t.natAbs := by
        rw [hb5]
        apply Int64.toInt_inj.mp
        rw [pk_lT (by omega), Int64.toInt_neg, hy]
        rw [Int.bmod_eq_of_le (by omega) (by omega)]
        omega
      rw [e]
      exact hm
  · have ht0 : t = 0 := by
      rw [← hy, h0]
      rfl
    refine sp_clear (fun σ' hr hc' => hQ σ' ?_ hc')
    rw [ht0, Int.mul_zero]
    exact hr
