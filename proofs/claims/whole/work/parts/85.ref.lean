/-! PURE: the reference's times, bitsOf, shiftUp, halve -/
theorem mul_bd {a b c f : Nat} (ha : a < 268435456) (hb : b < 268435456) (hc : c < 268435456) (hf : f < 268435456) : c + (f + a * b) < 268435456 * 268435456 := by
  have : a * b ≤ 268435455 * 268435455 := Nat.mul_le_mul (by omega) (by omega)
  omega
theorem sp_rtimes {t a b : Nat} {x y : Int} {ρ : RS} {Q : RS → Prop} (ht : t < 227) (ha : a < 227) (hb : b < 227) (hta : t ≠ a) (htb : t ≠ b) (hx : RpR ρ a x) (hy : RpR ρ b y)
    (hbd : (x * y).natAbs < 268435456 ^ 430) (hQ : ∀ ρ', RpR ρ' t (x * y) → Cr ρ ρ' (fun z => z = t) → Q ρ') : wpX5_times (nI t) (nI a) (nI b) ρ Q := by
  obtain ⟨s, D, hs, hS, hD, hT, hxv⟩ := hx.raw
  obtain ⟨s2, E, hs2, hS2, hE, hT2, hyv⟩ := hy.raw
  have hgx := hx.sg
  have hgy := hy.sg
  have hn : s + s2 ≤ 440 := by
    rcases Nat.eq_zero_or_pos s with e | e
    · omega
    rcases Nat.eq_zero_or_pos s2 with e2 | e2
    · omega
    obtain ⟨u, rfl⟩ : ∃ u, s = u + 1 := ⟨s - 1, by omega⟩
    obtain ⟨v, rfl⟩ : ∃ v, s2 = v + 1 := ⟨s2 - 1, by omega⟩
    have h1 := vq_ge (hT (by omega))
    have h2 := vq_ge (hT2 (by omega))
    rw [Nat.add_sub_cancel] at *
    have h3 := Nat.mul_le_mul h1 h2
    rw [← Nat.pow_add, ← hxv, ← hyv, ← Int.natAbs_mul] at h3
    have h4 := (Nat.pow_lt_pow_iff_right (show 1 < 268435456 by omega)).mp (Nat.lt_of_le_of_lt h3 hbd)
    omega
  show wpX5_times_0 (nI t) (nI a) (nI b) Q ρ
  unfold wpX5_times_0
  rw [nI_clamp (by omega), nI_clamp (by omega), hS, hS2, nI_add]
  refine ⟨pk_in a _ ha, pk_in b _ hb, fun a9 ha9 => ?_⟩
  subst ha9
  refine lq3_i (I := fun i4 i5 τ => i4 = nI (s + s2) ∧ ∃ k, k ≤ s + s2 ∧ i5 = nI k ∧ Dg τ t k (fun _ => 0) ∧ Fr ρ τ t k) (μ := fun _ i5 _ => s + s2 - i5.toNatClampNeg) ?_ _ _ _ ⟨rfl, 0, by omega, rfl, fun j hj => absurd hj (by omega), Fr.refl _ _⟩
  rintro N i4 i5 τ ⟨rfl, k, hk, rfl, hF, hFr⟩ hN
  unfold wbX5_times_18
  refine pk_le (s + s2) k (fun h1 => ?_) (fun h1 => ?_) rfl rfl (by omega) (by omega)
  rotate_left
  · rw [ix]
    refine ⟨pk_in (440 * t + k) _ (by omega), fun a8 ha8 => ?_⟩
    subst ha8
    refine hN _ _ _ ⟨rfl, k + 1, h1, nI_1 k, fun j hj => ?_, hFr.step ht (by omega) _⟩ ?_
    · rw [lm_we _ _ _ _ _ (by omega)]
      by_cases e : j = k
      · rw [if_pos e]
        exact ⟨rfl, show 0 < 268435456 by omega⟩
      · rw [if_neg e]
        exact hF j (by omega)
    · show s + s2 - (nI k + 1).toNatClampNeg < s + s2 - (nI k).toNatClampNeg
      rw [nI_1, nI_clamp (by omega), nI_clamp (by omega)]
      omega
  · have : k = s + s2 := by omega
    subst this
    have hv0 : ∀ n, vq (fun _ => 0) n = 0 := by
      intro n
      induction n with
      | zero => rfl
      | succ n ih => rw [vq_s, ih]; omega
    -- the frame, from here: limbs below s + s2 of t only
    refine lq3_i (I := fun i4 i5 τ => i4 = nI (s + s2) ∧ ∃ i F, i ≤ s ∧ i5 = nI i ∧ Dg τ t (s + s2) F ∧ Fr ρ τ t (s + s2) ∧ (∀ j, i + s2 ≤ j → j < s + s2 → F j = 0) ∧ vq F (s + s2) = vq D i * vq E s2) (μ := fun _ i5 _ => s - i5.toNatClampNeg) ?_ _ _ _ ⟨rfl, 0, fun _ => 0, by omega, rfl, hF, hFr, fun _ _ _ => rfl, by rw [hv0]; show 0 = 0 * _; omega⟩
    clear hF hFr hN N τ
    rintro N i4 i5 τ ⟨rfl, i, F, hi, rfl, hF, hFr, hz, hV⟩ hN
    unfold wbX5_times_48
    rw [nI_clamp (by omega), nI_clamp (by omega), hFr.S, hS, rG_wS, hFr.G, hgx, hgy, sg32_mul]
    refine ⟨pk_in a _ ha, pk_le s i (fun h2 => ⟨pk_in t _ ht, pk_in a _ ha, pk_in b _ hb, pk_in t _ ht, ?_⟩) (fun h2 => ?_) rfl rfl (by omega) (by omega)⟩
    · have : i = s := by omega
      subst this
      refine sp_rtrim (s := i + s2) (D := F) (x := x * y) ht ?_ hn hbd hF (by rw [Int.natAbs_mul, hxv, hyv, hV]) ?_ (fun ρ' h2 h3 => hQ ρ' h2 (((hFr.cr.wS ht rfl _).wG ht rfl _).trans h3))
      · rw [rS_wG, rS_wS ht, if_pos rfl]
      · intro _
        rw [rG_wG ht, if_pos rfl]
    · rw [ix, nI_clamp (by omega)]
      have e1 : rL τ (440 * a + i) = lN (D i) := (hFr.1 a i (by omega) (Or.inl (Ne.symm hta))).trans (hD i h2).1
      rw [e1]
      refine ⟨pk_in (440 * a + i) _ (by omega), fun b7 hb7 => ?_⟩
      subst hb7
      have hDi := (hD i h2).2
      refine lq6_i (I := fun i4 i5 l6 l8 i10 τ => i4 = nI (s + s2) ∧ i5 = nI i ∧ l8 = lN (D i) ∧ ∃ j c F, j ≤ s2 ∧ i10 = nI j ∧ l6 = lN c ∧ c < 268435456 ∧ Dg τ t (s + s2) F ∧ Fr ρ τ t (s + s2) ∧ (∀ j, i + s2 ≤ j → j < s + s2 → F j = 0) ∧ vq F (s + s2) + c * 268435456 ^ (i + j) = vq D i * vq E s2 + D i * vq E j * 268435456 ^ i) (μ := fun _ _ _ _ i10 _ => s2 - i10.toNatClampNeg) ?_ _ _ _ _ _ _ ⟨rfl, rfl, rfl, 0, 0, F, by omega, rfl, rfl, by omega, hF, hFr, hz, by rw [hV]; show _ = _ + D i * 0 * _; omega⟩
      clear hF hFr hz hV F τ e1
      rintro N2 i4 i5 l6 l8 i10 τ ⟨rfl, rfl, rfl, j, c, F, hj, rfl, rfl, hc, hF, hFr, hz, hV⟩ hN2
      unfold wbX5_times_80
      rw [nI_clamp (by omega), hFr.S, hS2, ix2, ix2, ix]
      refine ⟨pk_in b _ hb, pk_le s2 j (fun h3 => ⟨pk_in b _ hb, pk_in (440 * t + (i + s2)) _ (by omega), fun a1 ha1 => ?_⟩) (fun h3 => ⟨pk_in (440 * t + (i + j)) _ (by omega), pk_in (440 * b + j) _ (by omega), fun b2 hb2 => ⟨pk_in (440 * t + (i + j)) _ (by omega), fun b3 hb3 a4 ha4 => ?_⟩⟩) rfl rfl (by omega) (by omega)⟩
      · have : j = s2 := by omega
        subst this ha1
        refine hN _ _ _ ⟨rfl, i + 1, upN F (i + j) c, h2, nI_1 i, hF.set ht (by omega) hc, ⟨fun m q hq hm => ?_, hFr.2⟩, fun q h4 h5 => ?_, ?_⟩ ?_
        · by_cases e : m = t
          · subst e
            rw [lm_we _ _ _ _ _ (by omega), if_neg (by omega)]
            exact hFr.1 m q hq hm
          · rw [lm_wn ht (by omega) hq e]
            exact hFr.1 m q hq hm
        · rw [upN_n (by omega)]
          exact hz q (by omega) h5
        · have h6 := vq_upm (F := F) (k := i + j) (r := c) (n := s + j) (by omega)
          rw [hz (i + j) (by omega) (by omega), Nat.zero_mul, Nat.add_zero] at h6
          rw [h6, hV, vq_s]
          generalize 268435456 ^ i = P
          grind
        · show s - (nI i + 1).toNatClampNeg < s - (nI i).toNatClampNeg
          rw [nI_1, nI_clamp (by omega), nI_clamp (by omega)]
          omega
      · rw [nI_clamp (by omega), nI_clamp (by omega)] at hb2
        have e2 : rL τ (440 * b + j) = lN (E j) := (hFr.1 b j (by omega) (Or.inl (Ne.symm htb))).trans (hE j h3).1
        have e3 : rL τ (440 * t + (i + j)) = lN (F (i + j)) := (hF (i + j) (by omega)).1
        have hFl := (hF (i + j) (by omega)).2
        have hEl := (hE j h3).2
        rw [e2, e3, lN_mul, lN_add, lN_add] at hb2
        have hw := mul_bd hDi hEl hc hFl
        generalize hwe : c + (F (i + j) + D i * E j) = w at hb2 hw
        subst hb2
        rw [jl_28 (by omega)] at hb3
        subst hb3 ha4
        rw [jl_mask (by omega)]
        have hml := Nat.mod_lt w (show 0 < 268435456 by omega)
        refine hN2 _ _ _ _ _ _ ⟨rfl, rfl, rfl, j + 1, w / 268435456, upN F (i + j) (w % 268435456), h3, nI_1 j, rfl, by omega, hF.set ht (by omega) hml, ⟨fun m q hq hm => ?_, hFr.2⟩, fun q h4 h5 => ?_, ?_⟩ ?_
        · by_cases e : m = t
          · subst e
            rw [lm_we _ _ _ _ _ (by omega), if_neg (by omega)]
            exact hFr.1 m q hq hm
          · rw [lm_wn ht (by omega) hq e]
            exact hFr.1 m q hq hm
        · rw [upN_n (by omega)]
          exact hz q h4 h5
        · have h6 := vq_upm (F := F) (k := i + j) (r := w % 268435456) (n := s + s2) (by omega)
          have h7 : w * 268435456 ^ (i + j) = (268435456 * (w / 268435456) + w % 268435456) * 268435456 ^ (i + j) := by rw [Nat.div_add_mod]
          rw [← hwe] at h7
          rw [hwe] at h7
          have h8 : (c + (F (i + j) + D i * E j)) * 268435456 ^ (i + j) = w * 268435456 ^ (i + j) := by rw [hwe]
          rw [vq_s, ← Nat.add_assoc, Nat.pow_succ]
          rw [Nat.pow_add] at *
          generalize 268435456 ^ i = P at *
          generalize 268435456 ^ j = R at *
          grind
        · show s2 - (nI j + 1).toNatClampNeg < s2 - (nI j).toNatClampNeg
          rw [nI_1, nI_clamp (by omega), nI_clamp (by omega)]
          omega
/-- how many bits x has -/
def Bits (x b : Nat) : Prop := x < 2 ^ b ∧ (x ≠ 0 → 2 ^ b ≤ 2 * x) ∧ (x = 0 → b = 0)
theorem p28 (n : Nat) : 268435456 ^ n = 2 ^ (28 * n) := by rw [Nat.pow_mul]
theorem Bits.le {x b n : Nat} (h : Bits x b) (hx : x < 2 ^ n) : b ≤ n := by
  rcases Nat.eq_zero_or_pos x with e | e
  · rw [h.2.2 e]; omega
  · have h1 := h.2.1 (by omega)
    have h2 : 2 ^ b < 2 ^ (n + 1) := by rw [Nat.pow_succ]; omega
    have := (Nat.pow_lt_pow_iff_right (show 1 < 2 by omega)).mp h2
    omega
theorem Bits.gt {x b n : Nat} (h : Bits x b) (hx : 2 ^ n ≤ x) : n < b := (Nat.pow_lt_pow_iff_right (show 1 < 2 by omega)).mp (Nat.lt_of_le_of_lt hx h.1)
theorem sp_rbits {n : Nat} {x : Int} {ρ : RS} {Q : Int32 → RS → Prop} (hn : n < 227) (hx : RpR ρ n x) (hQ : ∀ b, b ≤ 12040 → Bits x.natAbs b → Q (nI b) ρ) : wpX5_bitsOf (nI n) ρ Q := by
  obtain ⟨s, D, hs, hS, hD, hT, hxv⟩ := hx.raw
  show wpX5_bitsOf_0 (nI n) Q ρ
  unfold wpX5_bitsOf_0
  rw [nI_clamp (by omega), hS]
  refine ⟨pk_in n _ hn, ?_⟩
  have h2 := pk_eq (x := nI s) (y := 0) (A := Q (0 : Int32) ρ) (B := vp_in (nI n) 227 ∧ ∀ a3 : Int32, a3 = (28 : Int32) * (nI s - 1) → vp_in (nI n) 227 ∧ (vp_in (((440 : Int32) * nI n) + nI s - 1) 99880 ∧ (∀ b4 : Int64, b4 = rL ρ (((440 : Int32) * nI n) + nI s - 1).toNatClampNeg → ∃ m, lq3 (wbX5_bitsOf_43 (nI n) Q) m a3 b4 ρ))) s 0 (fun e => ?_) (fun e => ⟨pk_in n _ hn, fun a3 ha3 => ⟨pk_in n _ hn, ?_⟩⟩) rfl rfl (by omega) (by omega)
  · exact ⟨h2.2, h2.1⟩
  · have hx0 : x.natAbs = 0 := by rw [hxv, e]; rfl
    exact hQ 0 (by omega) ⟨by rw [hx0]; exact Nat.one_pos, fun h => absurd hx0 h, fun _ => rfl⟩
  · obtain ⟨u, rfl⟩ : ∃ u, s = u + 1 := ⟨s - 1, by omega⟩
    have e1 : (440 : Int32) * nI n + nI (u + 1) - 1 = nI (440 * n + u) := by
      rw [ix, show (1 : Int32) = nI 1 from rfl, pk_sub (by omega), show 440 * n + (u + 1) - 1 = 440 * n + u by omega]
    rw [e1, nI_clamp (by omega)]
    obtain ⟨d1, d2⟩ := hD u (by omega)
    have d3 : rL ρ (440 * n + u) = lN (D u) := d1
    have d4 := hT (by omega)
    rw [Nat.add_sub_cancel] at d4
    rw [d3]
    have e2 : (28 : Int32) * (nI (u + 1) - 1) = nI (28 * u) := by
      rw [nI_pred, show (28 : Int32) = nI 28 from rfl, pk_mul]
    rw [e2] at ha3
    refine ⟨pk_in (440 * n + u) _ (by omega), fun b4 hb4 => ?_⟩
    subst ha3 hb4
    refine lq3_i (I := fun i2 l3 τ => τ = ρ ∧ ∃ c w, c ≤ 28 ∧ i2 = nI (28 * u + c) ∧ l3 = lN w ∧ w = D u / 2 ^ c ∧ (c ≠ 0 → D u / 2 ^ (c - 1) ≠ 0)) (μ := fun _ l3 _ => l3.toBitVec.toNat) ?_ _ _ _ ⟨rfl, 0, D u, by omega, rfl, rfl, by rw [Nat.pow_zero, Nat.div_one], fun h => absurd rfl h⟩
    rintro N i2 l3 τ ⟨rfl, c, w, hc, rfl, rfl, hw, hc2⟩ hN
    unfold wbX5_bitsOf_43
    have hwl : w ≤ D u := by rw [hw]; exact Nat.div_le_self _ _
    rw [lg_le, show (0 : Int64) = lN 0 from rfl, pk_lLE (by omega) (by omega), show (1 : Int32) = nI 1 from rfl, nI_add, jl_shr (by omega) (by omega)]
    refine ⟨fun h => ?_, fun h a1 ha1 b2 hb2 => ?_⟩
    · have hw0 : D u / 2 ^ c = 0 := by omega
      have hlt : D u < 2 ^ c := by
        rcases Nat.lt_or_ge (D u) (2 ^ c) with e | e
        · exact e
        · have := Nat.div_pos e (Nat.pow_pos (by omega)); omega
      have hc0 : c ≠ 0 := by
        intro e
        rw [e] at hlt
        omega
      have hge : 2 ^ (c - 1) ≤ D u := by
        rcases Nat.lt_or_ge (D u) (2 ^ (c - 1)) with e | e
        · exact absurd (Nat.div_eq_of_lt e) (hc2 hc0)
        · exact e
      have hlow := vq_lt (D := D) (s := u) (fun j hj => (hD j (by omega)).2)
      rw [vq_s, p28] at hxv
      rw [p28] at hlow
      have b1 : x.natAbs < 2 ^ (28 * u + c) := by
        have : (D u + 1) * 2 ^ (28 * u) ≤ 2 ^ c * 2 ^ (28 * u) := Nat.mul_le_mul_right _ hlt
        rw [Nat.pow_add, Nat.mul_comm (2 ^ (28 * u))]
        rw [Nat.add_mul, Nat.one_mul] at this
        omega
      have b2 : 2 ^ (28 * u + c) ≤ 2 * x.natAbs := by
        have h5 : 2 ^ (c - 1) * 2 ^ (28 * u) ≤ D u * 2 ^ (28 * u) := Nat.mul_le_mul_right _ hge
        have h6 : 2 ^ (28 * u + c) = 2 * (2 ^ (c - 1) * 2 ^ (28 * u)) := by
          rw [← Nat.pow_add, ← Nat.pow_add_one']
          congr 1
          omega
        rw [h6]
        omega
      refine hQ _ (by omega) ⟨b1, fun _ => b2, fun h0 => ?_⟩
      have := Nat.pow_pos (n := 28 * u + c) (show 0 < 2 by omega)
      omega
    · subst ha1 hb2
      have hc28 : c < 28 := by
        rcases Nat.lt_or_ge c 28 with e | e
        · exact e
        · have : c = 28 := by omega
          subst this
          have : D u / 2 ^ 28 = 0 := Nat.div_eq_of_lt d2
          omega
      refine hN _ _ _ ⟨rfl, c + 1, w / 2 ^ 1, by omega, rfl, rfl, ?_, fun _ => by rw [Nat.add_sub_cancel]; omega⟩ ?_
      · rw [hw, Nat.div_div_eq_div_mul, ← Nat.pow_add]
      · show (lN (w / 2 ^ 1)).toBitVec.toNat < (lN w).toBitVec.toNat
        rw [wb_tn (by omega), wb_tn (by omega)]
        omega
