/-! PURE: the reference's sum -/
theorem dig_sub64 {a b c : Nat} (ha : a < 268435456) (hb : b < 268435456) (hc : c ≤ 1) : ∃ r c', r < 268435456 ∧ c' ≤ 1 ∧ a + c' * 268435456 = r + b + c ∧ (lN a - lN b - lN c) &&& (268435455 : Int64) = lN r ∧ (0 ≤ lg_cmp (lN a - lN b - lN c) 0 ↔ c' = 0) := by
  by_cases h : b + c ≤ a
  · refine ⟨a - b - c, 0, by omega, by omega, by omega, ?_, ?_⟩
    · rw [lN_sub (by omega), lN_sub (by omega), jl_mask (by omega), Nat.mod_eq_of_lt (by omega)]
    · rw [lN_sub (by omega), lN_sub (by omega), jl_ge, show (0 : Int64) = lN 0 from rfl, pk_lLE (by omega) (by omega)]
      exact ⟨fun _ => rfl, fun _ => Nat.zero_le _⟩
  · have e : lN a - lN b - lN c = lN (18446744073709551616 + a - b - c) := by
      have h0 : lN 18446744073709551616 = 0 := by decide
      have h1 : lN (18446744073709551616 + a - b - c) + lN (b + c) = lN a := by
        rw [lN_add, show 18446744073709551616 + a - b - c + (b + c) = 18446744073709551616 + a by omega, ← lN_add, h0, Int64.zero_add]
      rw [← h1, ← lN_add]
      generalize lN (18446744073709551616 + a - b - c) = u
      generalize lN b = v
      generalize lN c = t
      rw [Int64.sub_eq_add_neg, Int64.sub_eq_add_neg, Int64.add_assoc, Int64.add_assoc, show v + t + (-v + -t) = 0 by
        rw [Int64.add_comm v t, Int64.add_assoc, ← Int64.add_assoc v, Int64.add_right_neg, Int64.zero_add, Int64.add_right_neg], Int64.add_zero]
    refine ⟨268435456 + a - b - c, 1, by omega, by omega, by omega, ?_, ?_⟩
    · rw [e, jl_mask (by omega)]
      congr 1
      omega
    · rw [e, jl_ge]
      constructor
      · intro h2
        rw [Int64.le_iff_toInt_le] at h2
        have h3 : (lN (18446744073709551616 + a - b - c)).toInt = (18446744073709551616 + a - b - c : Nat) - 18446744073709551616 := by
          show (BitVec.ofNat 64 _).toInt = _
          rw [BitVec.toInt_eq_toNat_cond, BitVec.toNat_ofNat, Nat.mod_eq_of_lt (by omega), if_neg (by omega)]
          rfl
        rw [h3] at h2
        have : (0 : Int64).toInt = 0 := rfl
        omega
      · intro h2
        omega
theorem dgl {ρ : RS} {n s : Nat} {D : Nat → Nat} (h : Dg ρ n s D) : ∀ j, j < s → D j < 268435456 := fun j hj => (h j hj).2
theorem rsum_sub {t p q n m : Nat} {D E : Nat → Nat} {z : Int} {x2 x3 x4 g : Int32} {ρ : RS} {Q : RS → Prop} (ht : t < 227) (hp : p < 227) (hq : q < 227) (hn : n ≤ 430) (hm : m ≤ n)
    (hS : rS ρ p = nI n) (hS2 : rS ρ q = nI m) (hD : Dg ρ p n D) (hE : Dg ρ q m E) (hle : vq E m ≤ vq D n) (hz : z.natAbs = vq D n - vq E m) (hzb : z.natAbs < 268435456 ^ 430) (hg : z ≠ 0 → g = sg32 z)
    (hQ : ∀ ρ', RpR ρ' t z → Cr ρ ρ' (fun z => z = t) → Q ρ') : wpX5_sum_344 (nI t) x2 x3 x4 Q (nI p) (nI q) g ρ := by
  unfold wpX5_sum_344
  refine ⟨pk_in p _ hp, fun a6 ha6 => ⟨pk_in q _ hq, fun a7 ha7 => ?_⟩⟩
  rw [nI_clamp (by omega), hS] at ha6
  rw [nI_clamp (by omega), hS2] at ha7
  subst ha6 ha7
  refine lq8_i (I := fun i7 i8 i9 i10 i11 l12 i14 τ => i7 = nI p ∧ i8 = nI q ∧ i9 = g ∧ i10 = nI n ∧ i11 = nI m ∧ ∃ k c F, k ≤ n ∧ i14 = nI k ∧ l12 = lN c ∧ c ≤ 1 ∧ Dg τ t k F ∧ Fr ρ τ t k ∧ vq F k + vq (exq E m) k = vq D k + c * 268435456 ^ k) (μ := fun _ _ _ _ _ _ i14 _ => n - i14.toNatClampNeg) ?_ _ _ _ _ _ _ _ _ ⟨rfl, rfl, rfl, rfl, rfl, 0, 0, fun _ => 0, by omega, rfl, rfl, by omega, fun j hj => absurd hj (by omega), Fr.refl _ _, rfl⟩
  rintro N i7 i8 i9 i10 i11 l12 i14 τ ⟨rfl, rfl, rfl, rfl, rfl, k, c, F, hk, rfl, rfl, hc, hF, hFr, hV⟩ hN
  unfold wbX5_sum_368
  refine pk_le n k (fun h1 => ⟨pk_in t _ ht, pk_in t _ ht, ?_⟩) (fun h1 => ?_) rfl rfl (by omega) (by omega)
  · have : k = n := by omega
    subst this
    rw [vq_exq hm] at hV
    have hFl := vq_lt (dgl hF)
    have hc0 : c = 0 := by
      rcases Nat.eq_zero_or_pos c with e | e
      · exact e
      · have : c = 1 := by omega
        subst this
        omega
    subst hc0
    refine sp_rtrim (s := k) (D := F) (x := z) ht ?_ (by omega) hzb hF (by omega) ?_ (fun ρ' h2 h3 => hQ ρ' h2 (((hFr.cr.wS ht rfl _).wG ht rfl _).trans h3))
    · rw [rS_wG, rS_wS ht, if_pos rfl]
    · intro hz0
      rw [rG_wG ht, if_pos rfl]
      exact hg hz0
  · rw [ix, ix, nI_clamp (by omega), nI_clamp (by omega)]
    have e1 : rL τ (440 * p + k) = lN (D k) := (hFr.1 p k (by omega) (Or.inr (Nat.le_refl _))).trans (hD k h1).1
    rw [e1]
    have hstep : ∀ r c', r < 268435456 → c' ≤ 1 → D k + c' * 268435456 = r + exq E m k + c → N (nI p) (nI q) i9 (nI n) (nI m) (lN c') (nI k + 1) (wL τ (nI (440 * t + k)) (lN r)) := by
      intro r c' hr hc' he
      refine hN _ _ _ _ _ _ _ _ ⟨rfl, rfl, rfl, rfl, rfl, k + 1, c', upN F k r, h1, nI_1 k, rfl, hc', hF.step ht (by omega) hr, hFr.step ht (by omega) _, ?_⟩ ?_
      · rw [vq_up, vq_s, vq_s, Nat.pow_succ]
        have h3 : (D k + c' * 268435456) * 268435456 ^ k = (r + exq E m k + c) * 268435456 ^ k := by rw [he]
        generalize 268435456 ^ k = P at *
        grind
      · show n - (nI k + 1).toNatClampNeg < n - (nI k).toNatClampNeg
        rw [nI_1, nI_clamp (by omega), nI_clamp (by omega)]
        omega
    have hfin : ∀ v b, b = exq E m k → v = lN (D k) - lN b - lN c → wpX5_sum_420 (nI t) x2 x3 x4 Q N (nI p) (nI q) i9 (nI n) (nI m) (nI k) v τ := by
      intro v b hb hv
      obtain ⟨r, c', hr, hc', he, hr2, hc2⟩ := dig_sub64 (a := D k) (b := b) (c := c) (hD k h1).2 (by rw [hb]; exact exq_lt (dgl hE) k) hc
      rw [hb] at he
      rw [← hv] at hr2 hc2
      unfold wpX5_sum_420 wpX5_sum_434
      rw [ix, hr2]
      refine ⟨fun h2 => ⟨pk_in (440 * t + k) _ (by omega), fun a1 ha1 => ?_⟩, fun h2 => ⟨pk_in (440 * t + k) _ (by omega), fun a1 ha1 => ?_⟩⟩
      · have := hc2.mp h2
        subst this ha1
        exact hstep r 0 hr hc' he
      · have : c' = 1 := by
          have : c' ≠ 0 := fun e => h2 (hc2.mpr e)
          omega
        subst this ha1
        exact hstep r 1 hr hc' he
    refine ⟨pk_in (440 * p + k) _ (by omega), pk_le m k (fun h2 b4 hb4 => hfin b4 0 (by unfold exq; rw [if_neg (by omega)]) hb4) (fun h2 => ⟨pk_in (440 * q + k) _ (by omega), fun b5 hb5 => hfin b5 (E k) (by unfold exq; rw [if_pos (by omega)]) ?_⟩) rfl rfl (by omega) (by omega)⟩
    have e2 : rL τ (440 * q + k) = lN (E k) := (hFr.1 q k (by omega) (Or.inr (Nat.le_refl _))).trans (hE k h2).1
    rw [hb5, e2]
theorem rsum_add {t a b s s2 m : Nat} {D E : Nat → Nat} {z : Int} {x4 : Int32} {ρ : RS} {Q : RS → Prop} (ht : t < 227) (ha : a < 227) (hb : b < 227) (hs : s ≤ 430) (hs2 : s2 ≤ 430)
    (hS : rS ρ a = nI s) (hS2 : rS ρ b = nI s2) (hD : Dg ρ a s D) (hE : Dg ρ b s2 E) (hT : s ≠ 0 → D (s - 1) ≠ 0) (hT2 : s2 ≠ 0 → E (s2 - 1) ≠ 0) (h0 : s ≠ 0) (h02 : s2 ≠ 0) (hm : (m = s ∧ s2 ≤ s) ∨ (m = s2 ∧ s ≤ s2))
    (hz : z.natAbs = vq D s + vq E s2) (hzb : z.natAbs < 268435456 ^ 430) (hg : rG ρ a = sg32 z)
    (hQ : ∀ ρ', RpR ρ' t z → Cr ρ ρ' (fun z => z = t) → Q ρ') : wpX5_sum_122 (nI t) (nI a) (nI b) x4 Q (nI m) ρ := by
  unfold wpX5_sum_122
  rw [nI_clamp (by omega), nI_clamp (by omega), hS, hS2, hg]
  refine ⟨pk_in a _ ha, fun a15 ha15 => ⟨pk_in b _ hb, fun a16 ha16 => ⟨pk_in a _ ha, fun a17 ha17 => ?_⟩⟩⟩
  subst ha15 ha16 ha17
  have hsm : s ≤ m := by omega
  have hsm2 : s2 ≤ m := by omega
  refine lq7_i (I := fun i6 l7 i9 i10 i11 i12 τ => i6 = nI m ∧ i9 = nI s ∧ i10 = nI s2 ∧ i11 = sg32 z ∧ ∃ k c F, k ≤ m ∧ i12 = nI k ∧ l7 = lN c ∧ c ≤ 1 ∧ Dg τ t k F ∧ Fr ρ τ t k ∧ vq F k + c * 268435456 ^ k = vq (exq D s) k + vq (exq E s2) k) (μ := fun _ _ _ _ _ i12 _ => m - i12.toNatClampNeg) ?_ _ _ _ _ _ _ _ ⟨rfl, rfl, rfl, rfl, 0, 0, fun _ => 0, by omega, rfl, rfl, by omega, fun j hj => absurd hj (by omega), Fr.refl _ _, rfl⟩
  rintro N i6 l7 i9 i10 i11 i12 τ ⟨rfl, rfl, rfl, rfl, k, c, F, hk, rfl, rfl, hc, hF, hFr, hV⟩ hN
  unfold wbX5_sum_152
  refine pk_le m k (fun h1 => ⟨pk_in t _ ht, ?_⟩) (fun h1 => ?_) rfl rfl (by omega) (by omega)
  · have : k = m := by omega
    subst this
    rw [vq_exq hsm, vq_exq hsm2] at hV
    have hFl := vq_lt (dgl hF)
    have hlow : 268435456 ^ (k - 1) ≤ vq D s + vq E s2 := by
      rcases hm with ⟨e, _⟩ | ⟨e, _⟩
      · subst e
        obtain ⟨u, rfl⟩ : ∃ u, k = u + 1 := ⟨k - 1, by omega⟩
        have := vq_ge (hT h0)
        rw [Nat.add_sub_cancel] at *
        omega
      · subst e
        obtain ⟨u, rfl⟩ : ∃ u, k = u + 1 := ⟨k - 1, by omega⟩
        have := vq_ge (hT2 h02)
        rw [Nat.add_sub_cancel] at *
        omega
    rw [lg_le, show (0 : Int64) = lN 0 from rfl, pk_lLE (by omega) (by omega)]
    unfold wpX5_sum_285
    refine ⟨fun h2 => ⟨pk_in t _ ht, ?_⟩, fun h2 => ?_⟩
    · have hc0 : c = 0 := by omega
      subst hc0
      refine hQ _ ⟨k, F, by omega, ?_, hF, fun _ => vq_top (dgl hF) (by omega) (by omega), by omega, ?_⟩ ((hFr.cr.wS ht rfl _).wG ht rfl _)
      · rw [rS_wG, rS_wS ht, if_pos rfl]
      · rw [rG_wG ht, if_pos rfl]
    · have hc1 : c = 1 := by omega
      subst hc1
      rw [ix, nI_clamp (by omega), rS_wL, rS_wS ht, if_pos rfl, nI_1]
      refine ⟨pk_in (440 * t + k) _ (by omega), pk_in t _ ht, pk_in t _ ht, pk_in t _ ht, ?_⟩
      have hF2 : Dg (wS τ (nI t) (nI k)) t k F := hF
      have hv2 : vq (upN F k 1) (k + 1) = vq F k + 1 * 268435456 ^ k := vq_up F k 1
      have hF3 := hF2.step ht (show k < 440 by omega) (show 1 < 268435456 by omega)
      have ht3 : k + 1 ≠ 0 → upN F k 1 (k + 1 - 1) ≠ 0 := fun _ => by rw [Nat.add_sub_cancel, upN_e]; omega
      refine hQ _ ⟨k + 1, upN F k 1, rq_size (D := upN F k 1) ht3 (by rw [hv2, hV, ← hz]; exact hzb), ?_, hF3, ht3, by rw [hv2, hV]; exact hz, ?_⟩ ((((hFr.cr.wS ht rfl _).wL ht (by omega) rfl _).wS ht rfl _).wG ht rfl _)
      · rw [rS_wG, rS_wS ht, if_pos rfl]
      · rw [rG_wG ht, if_pos rfl]
  · rw [ix, ix, nI_clamp (by omega), nI_clamp (by omega)]
    have hfin : ∀ v, v = lN c + (lN (exq D s k) + lN (exq E s2 k)) → wpX5_sum_213 (nI t) (nI a) (nI b) x4 Q N (nI m) v (nI s) (nI s2) (sg32 z) (nI k) τ := by
      intro v hv
      have d1 := exq_lt (dgl hD) k
      have d2 := exq_lt (dgl hE) k
      rw [lN_add, lN_add] at hv
      subst hv
      unfold wpX5_sum_213
      rw [ix, jl_28 (by omega), jl_mask (by omega)]
      refine ⟨pk_in (440 * t + k) _ (by omega), fun b9 hb9 a10 ha10 => ?_⟩
      subst hb9 ha10
      generalize hw : c + (exq D s k + exq E s2 k) = w
      refine hN _ _ _ _ _ _ _ ⟨rfl, rfl, rfl, rfl, k + 1, w / 268435456, upN F k (w % 268435456), h1, nI_1 k, rfl, by omega, hF.step ht (by omega) (Nat.mod_lt _ (by omega)), hFr.step ht (by omega) _, ?_⟩ ?_
      · rw [vq_up, vq_s, vq_s, Nat.pow_succ]
        have h3 : w * 268435456 ^ k = (268435456 * (w / 268435456) + w % 268435456) * 268435456 ^ k := by rw [Nat.div_add_mod]
        rw [← hw] at h3
        rw [hw] at h3
        have h4 : (c + (exq D s k + exq E s2 k)) * 268435456 ^ k = w * 268435456 ^ k := by rw [hw]
        generalize 268435456 ^ k = P at *
        grind
      · show m - (nI k + 1).toNatClampNeg < m - (nI k).toNatClampNeg
        rw [nI_1, nI_clamp (by omega), nI_clamp (by omega)]
        omega
    have e1 : k < s → rL τ (440 * a + k) = lN (exq D s k) := fun h => by
      unfold exq
      rw [if_pos h]
      exact (hFr.1 a k (by omega) (Or.inr (Nat.le_refl _))).trans (hD k h).1
    have e2 : k < s2 → rL τ (440 * b + k) = lN (exq E s2 k) := fun h => by
      unfold exq
      rw [if_pos h]
      exact (hFr.1 b k (by omega) (Or.inr (Nat.le_refl _))).trans (hE k h).1
    have z1 : s ≤ k → (0 : Int64) = lN (exq D s k) := fun h => by
      unfold exq
      rw [if_neg (by omega)]
      rfl
    have z2 : s2 ≤ k → (0 : Int64) = lN (exq E s2 k) := fun h => by
      unfold exq
      rw [if_neg (by omega)]
      rfl
    refine pk_le s k (fun h2 => pk_le s2 k (fun h3 b11 hb => hfin b11 ?_) (fun h3 => ⟨pk_in (440 * b + k) _ (by omega), fun b12 hb => hfin b12 ?_⟩) rfl rfl (by omega) (by omega)) (fun h2 => ⟨pk_in (440 * a + k) _ (by omega), pk_le s2 k (fun h3 b13 hb => hfin b13 ?_) (fun h3 => ⟨pk_in (440 * b + k) _ (by omega), fun b14 hb => hfin b14 ?_⟩) rfl rfl (by omega) (by omega)⟩) rfl rfl (by omega) (by omega)
    · rw [hb, ← z1 h2, ← z2 h3]
    · rw [hb, ← z1 h2, e2 h3]
    · rw [hb, e1 h2, ← z2 h3]
    · rw [hb, e1 h2, e2 h3]
theorem sg32_val (x : Int) : (x < 0 ∧ sg32 x = -1) ∨ (x = 0 ∧ sg32 x = 0) ∨ (0 < x ∧ sg32 x = 1) := by
  rcases Int.lt_trichotomy x 0 with h | h | h
  · exact Or.inl ⟨h, sg32_lt h⟩
  · exact Or.inr (Or.inl ⟨h, by rw [h]; rfl⟩)
  · exact Or.inr (Or.inr ⟨h, sg32_pos h⟩)
theorem sp_rsum {t a b : Nat} {x y e : Int} {x4 : Int32} {ρ : RS} {Q : RS → Prop} (ht : t < 227) (ha : a < 227) (hb : b < 227) (hx : RpR ρ a x) (hy : RpR ρ b y) (he : (e = 1 ∧ x4 = 1) ∨ (e = -1 ∧ x4 = -1))
    (hbd : (x + e * y).natAbs < 268435456 ^ 430) (hQ : ∀ ρ', RpR ρ' t (x + e * y) → Cr ρ ρ' (fun z => z = t) → Q ρ') : wpX5_sum (nI t) (nI a) (nI b) x4 ρ Q := by
  obtain ⟨s, D, hs, hS, hD, hT, hxv⟩ := hx.raw
  obtain ⟨s2, E, hs2, hS2, hE, hT2, hyv⟩ := hy.raw
  have hgx := hx.sg
  have hgy := hy.sg
  obtain ⟨y', hy'⟩ : ∃ y', y' = e * y := ⟨_, rfl⟩
  have hya : y'.natAbs = y.natAbs := by
    rcases he with ⟨h1, _⟩ | ⟨h1, _⟩ <;> rw [hy', h1] <;> omega
  have hsb : x4 * sg32 y = sg32 y' := by
    rcases he with ⟨h1, h2⟩ | ⟨h1, h2⟩
    · rw [hy', h1, h2, Int.one_mul, Int32.one_mul]
    · rw [hy', h1, h2, Int.neg_one_mul, sg32_neg]
      rcases sg32_val y with ⟨_, h⟩ | ⟨_, h⟩ | ⟨_, h⟩ <;> rw [h] <;> rfl
  rw [← hy'] at hbd hQ
  show wpX5_sum_0 (nI t) (nI a) (nI b) x4 Q ρ
  unfold wpX5_sum_0
  rw [nI_clamp (by omega), nI_clamp (by omega), hgx, hgy, hS, hS2, hsb]
  have hcopy : (x = 0 ∨ y' = 0) → wpX5_sum_25 (nI t) (nI a) (nI b) x4 Q (sg32 y') ρ := by
    intro h0
    unfold wpX5_sum_25 wpX5_sum_41 wpX5_sum_63
    rw [nI_clamp (by omega), hgx]
    refine ⟨pk_in a _ ha, fun h1 => ⟨pk_in a _ ha, fun _ => ⟨pk_in a _ ha, fun a20 ha20 => ?_⟩, fun h2 => absurd h2 h1⟩, fun h1 => ⟨pk_in a _ ha, fun h2 => absurd h1 h2, fun _ => ?_⟩⟩
    · have hx0 : x ≠ 0 := fun h => h1 (sg32_eq0.mpr h)
      have hy0 : y' = 0 := by omega
      subst ha20
      rw [hy0, Int.add_zero] at hQ
      exact sp_rcopy ha ht hx (fun ρ1 h3 h4 => ⟨pk_in t _ ht, hQ _ (h3.wG ht rfl rfl) (h4.wG ht rfl _)⟩)
    · have hx0 := sg32_eq0.mp h1
      rw [hx0, Int.zero_add] at hQ
      exact sp_rcopy hb ht hy (fun ρ1 h3 h4 => ⟨pk_in t _ ht, hQ _ (h3.wG ht hya rfl) (h4.wG ht rfl _)⟩)
  refine ⟨pk_in b _ hb, fun a21 ha21 => ⟨pk_in a _ ha, fun h1 => ?_, fun h1 => ⟨fun h2 => ⟨pk_in a _ ha, fun h3 => ?_, fun h3 => ⟨pk_in a _ ha, pk_in b _ hb, ?_⟩⟩, fun h2 => ?_⟩⟩⟩
  · subst ha21
    exact hcopy (Or.inl (sg32_eq0.mp h1))
  · subst ha21
    have hx0 : x ≠ 0 := fun h => h1 (sg32_eq0.mpr h)
    have hy0 : y' ≠ 0 := fun h => h2 (sg32_eq0.mpr h)
    have hop : (x < 0 ∧ 0 < y') ∨ (0 < x ∧ y' < 0) := by
      rcases sg32_val x with ⟨h4, h5⟩ | ⟨h4, h5⟩ | ⟨h4, h5⟩ <;> rcases sg32_val y' with ⟨h6, h7⟩ | ⟨h6, h7⟩ | ⟨h6, h7⟩ <;> rw [h5, h7] at h3 <;> first | exact absurd rfl h3 | omega
    refine sp_compareSizes ha hb hx hy ?_
    unfold wpX5_sum_314 wpX5_sum_326
    rw [cmp32_lt, nI_clamp (by omega), hgx]
    refine ⟨fun h4 => ⟨fun _ => ⟨fun _ => ?_, fun h => absurd h4 h⟩, fun h => absurd h4 h⟩, fun h4 => ⟨fun h => absurd h h4, fun _ => ⟨fun h => absurd h h4, fun _ => ⟨pk_in a _ ha, fun a8 ha8 => ?_⟩⟩⟩⟩
    · refine rsum_sub (z := x + y') ht hb ha hs2 ?_ hS2 hS hE hD (by omega) (by omega) hbd (fun h => ?_) hQ
      · refine rq_size hT ?_
        rw [← hxv]
        exact Nat.lt_trans h4 (by rw [hyv]; exact vq_lt (dgl hE))
      · rcases hop with ⟨u1, u2⟩ | ⟨u1, u2⟩
        · rw [sg32_pos (by omega), sg32_pos (by omega)]
        · rw [sg32_lt (by omega), sg32_lt (by omega)]
    · subst ha8
      refine rsum_sub (z := x + y') ht ha hb hs ?_ hS hS2 hD hE (by omega) (by omega) hbd (fun h => ?_) hQ
      · refine rq_size hT2 ?_
        rw [← hyv]
        exact Nat.lt_of_le_of_lt (by omega) (show x.natAbs < _ by rw [hxv]; exact vq_lt (dgl hD))
      · rcases hop with ⟨u1, u2⟩ | ⟨u1, u2⟩
        · rw [sg32_lt (by omega), sg32_lt (by omega)]
        · rw [sg32_pos (by omega), sg32_pos (by omega)]
  · subst ha21
    have hx0 : x ≠ 0 := fun h => h1 (sg32_eq0.mpr h)
    have hy0 : y' ≠ 0 := fun h => h2 (sg32_eq0.mpr h)
    have hss := sg32_iff h3
    have hs0 : s ≠ 0 := fun h => by rw [h] at hxv; have : vq D 0 = 0 := rfl; omega
    have hs20 : s2 ≠ 0 := fun h => by rw [h] at hyv; have : vq E 0 = 0 := rfl; omega
    have hg : sg32 x = sg32 (x + y') := by
      rcases Int.lt_trichotomy x 0 with h | h | h
      · rw [sg32_lt h, sg32_lt (by omega)]
      · exact absurd h hx0
      · rw [sg32_pos h, sg32_pos (by omega)]
    refine pk_le s s2 (fun h4 => ⟨pk_in b _ hb, fun a24 ha24 => ?_⟩) (fun h4 => ⟨pk_in a _ ha, fun a25 ha25 => ?_⟩) rfl rfl (by omega) (by omega)
    · subst ha24
      exact rsum_add (z := x + y') ht ha hb hs hs2 hS hS2 hD hE hT hT2 hs0 hs20 (Or.inr ⟨rfl, h4⟩) (by omega) hbd (hgx.trans hg) hQ
    · subst ha25
      exact rsum_add (z := x + y') ht ha hb hs hs2 hS hS2 hD hE hT hT2 hs0 hs20 (Or.inl ⟨rfl, by omega⟩) (by omega) hbd (hgx.trans hg) hQ
  · subst ha21
    exact hcopy (Or.inr (sg32_eq0.mp h2))
