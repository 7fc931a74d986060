/-! PURE: the reference's numbers: put, sum, times -/
theorem jl_shr {n k : Nat} (hn : n < 2 ^ 63) (hk : k < 64) : jlshr (lN n) (nI k) = lN (n / 2 ^ k) := by
  unfold jlshr
  rw [wb_c k hk]
  apply wb_inj
  rw [Int64.toBitVec_shiftRight, wb_tb, wb_tb, wb_tb, wb_sm k hk]
  apply BitVec.eq_of_toNat_eq
  have hm : (BitVec.ofNat 64 n).msb = false := by
    rw [BitVec.msb_eq_decide, BitVec.toNat_ofNat, Nat.mod_eq_of_lt (by omega)]
    exact decide_eq_false (by omega)
  rw [BitVec.sshiftRight_eq', BitVec.sshiftRight_eq_of_msb_false hm, BitVec.toNat_ushiftRight, BitVec.toNat_ofNat, BitVec.toNat_ofNat, BitVec.toNat_ofNat, Nat.mod_eq_of_lt (show k < 2 ^ 64 by omega), Nat.mod_eq_of_lt (show n < 2 ^ 64 by omega), Nat.shiftRight_eq_div_pow, Nat.mod_eq_of_lt (Nat.lt_of_le_of_lt (Nat.div_le_self _ _) (by omega))]
theorem jl_28 {n : Nat} (hn : n < 2 ^ 63) : jlshr (lN n) (28 : Int32) = lN (n / 268435456) := jl_shr (k := 28) hn (by omega)
theorem jl_mask {n : Nat} (hn : n < 2 ^ 64) : lN n &&& (268435455 : Int64) = lN (n % 268435456) := wb_mask (k := 28) hn (by omega)
theorem jl_ge {x y : Int64} : 0 ≤ lg_cmp x y ↔ y ≤ x := by
  rw [lg_cmp_ge]
def upN (F : Nat → Nat) (k r j : Nat) : Nat := if j = k then r else F j
theorem upN_e (F : Nat → Nat) (k r : Nat) : upN F k r k = r := if_pos rfl
theorem upN_n {F : Nat → Nat} {k r j : Nat} (h : j ≠ k) : upN F k r j = F j := if_neg h
theorem vq_upl {F : Nat → Nat} {k r n : Nat} (h : n ≤ k) : vq (upN F k r) n = vq F n := vq_congr (fun j hj => upN_n (by omega))
theorem vq_up (F : Nat → Nat) (k r : Nat) : vq (upN F k r) (k + 1) = vq F k + r * 268435456 ^ k := by rw [vq_s, vq_upl (Nat.le_refl _), upN_e]
theorem vq_upm {F : Nat → Nat} {k r n : Nat} (h : k < n) : vq (upN F k r) n + F k * 268435456 ^ k = vq F n + r * 268435456 ^ k := by
  have h1 := vq_ext (f := upN F k r) (g := F) (m := k + 1) (n := n) h (fun j h1 _ => upN_n (by omega))
  rw [vq_up, vq_s] at h1
  omega
theorem Dg.step {τ : RS} {t k : Nat} {F : Nat → Nat} (h : Dg τ t k F) (ht : t < 227) (hk : k < 440) {r : Nat} (hr : r < 268435456) : Dg (wL τ (nI (440 * t + k)) (lN r)) t (k + 1) (upN F k r) := by
  intro j hj
  rw [lm_we _ _ _ _ _ (by omega)]
  by_cases e : j = k
  · rw [if_pos e, e, upN_e]
    exact ⟨rfl, hr⟩
  · rw [if_neg e, upN_n e]
    exact h j (by omega)
theorem Dg.set {τ : RS} {t k n : Nat} {F : Nat → Nat} (h : Dg τ t n F) (ht : t < 227) (hk : k < 440) {r : Nat} (hr : r < 268435456) : Dg (wL τ (nI (440 * t + k)) (lN r)) t n (upN F k r) := by
  intro j hj
  rw [lm_we _ _ _ _ _ (by omega)]
  by_cases e : j = k
  · rw [if_pos e, e, upN_e]
    exact ⟨rfl, hr⟩
  · rw [if_neg e, upN_n e]
    exact h j (by omega)
def exq (D : Nat → Nat) (s i : Nat) : Nat := if i < s then D i else 0
theorem vq_exq {D : Nat → Nat} {s k : Nat} (h : s ≤ k) : vq (exq D s) k = vq D s := by
  have h1 := vq_ext (f := exq D s) (g := fun j => if j < s then D j else 0) (m := s) (n := k) h (fun _ _ _ => rfl)
  induction k with
  | zero =>
    have : s = 0 := by omega
    subst this
    rfl
  | succ k ih =>
    rcases Nat.eq_or_lt_of_le h with e | e
    · subst e
      exact vq_congr (fun j hj => if_pos hj)
    · rw [vq_s, ih (by omega) (vq_ext (by omega) (fun _ _ _ => rfl))]
      show vq D s + (if k < s then D k else 0) * 268435456 ^ k = vq D s
      rw [if_neg (by omega), Nat.zero_mul, Nat.add_zero]
theorem exq_lt {D : Nat → Nat} {s : Nat} (h : ∀ j, j < s → D j < 268435456) (i : Nat) : exq D s i < 268435456 := by
  unfold exq
  split
  · exact h i (by assumption)
  · omega
theorem vq_top {F : Nat → Nat} {m : Nat} (h : ∀ j, j < m → F j < 268435456) (hm : m ≠ 0) (hv : 268435456 ^ (m - 1) ≤ vq F m) : F (m - 1) ≠ 0 := by
  obtain ⟨u, rfl⟩ : ∃ u, m = u + 1 := ⟨m - 1, by omega⟩
  rw [Nat.add_sub_cancel] at *
  intro e
  rw [vq_s, e, Nat.zero_mul, Nat.add_zero] at hv
  have := vq_lt (D := F) (s := u) (fun j hj => h j (by omega))
  omega
theorem RpR.wG {ρ : RS} {t : Nat} {y z : Int} (h : RpR ρ t y) (ht : t < 227) (hz : z.natAbs = y.natAbs) {g : Int32} (hg : g = sg32 z) : RpR (wG ρ (nI t) g) t z := by
  obtain ⟨s, D, h1, h2, h3, h4, h5⟩ := h.raw
  exact ⟨s, D, h1, h2, h3, h4, by omega, by rw [rG_wG ht, if_pos rfl, hg]⟩
theorem cr_wG {ρ : RS} {t : Nat} (ht : t < 227) (g : Int32) : Cr ρ (wG ρ (nI t) g) (fun z => z = t) := (Cr.refl ρ (fun z => z = t)).wG ht rfl g
/-- the value of a Java long, put -/
theorem sp_rput {n v : Nat} {g : Int} {y : Int64} {ρ : RS} {Q : RS → Prop} (hn : n < 227) (hv : v < 2 ^ 62) (hg : (g = v ∧ y = lN v) ∨ (g = -(v : Int) ∧ 0 < v ∧ y = -(lN v)))
    (hQ : ∀ ρ', RpR ρ' n g → Cr ρ ρ' (fun z => z = n) → Q ρ') : wpX5_put (nI n) y ρ Q := by
  have hvq : g.natAbs = v := by omega
  have key : ∀ τ, Cr ρ τ (fun z => z = n) → rG τ n = sg32 g → wpX5_put_41 (nI n) y Q (lN v) τ := by
    intro τ hC hG
    unfold wpX5_put_41
    refine ⟨pk_in n _ hn, ?_⟩
    refine lq2_i (I := fun l τ' => ∃ k w F, k ≤ 3 ∧ l = lN w ∧ w * 268435456 ^ k ≤ v ∧ rS τ' n = nI k ∧ rG τ' n = sg32 g ∧ Dg τ' n k F ∧ (w = 0 → k ≠ 0 → F (k - 1) ≠ 0) ∧ vq F k + w * 268435456 ^ k = v ∧ Cr ρ τ' (fun z => z = n)) (μ := fun l _ => l.toBitVec.toNat) ?_ _ _ ⟨0, v, fun _ => 0, by omega, rfl, by rw [Nat.pow_zero]; omega, by rw [rS_wS hn, if_pos rfl]; rfl, hG, fun j hj => absurd hj (by omega), fun _ h => absurd rfl h, by show 0 + v * 1 = v; omega, hC.wS hn rfl _⟩
    rintro N l τ' ⟨k, w, F, hk, rfl, hwv, hS, hG', hD, hT, hV, hC'⟩ hN
    have hw : w ≤ v := Nat.le_trans (Nat.le_mul_of_pos_right w (Nat.pow_pos (by omega))) hwv
    unfold wbX5_put_48
    rw [nI_clamp (by omega), hS, ix, lg_le, show (0 : Int64) = lN 0 from rfl, pk_lLE (by omega) (by omega)]
    refine ⟨fun h => ?_, fun h => ⟨pk_in n _ hn, pk_in (440 * n + k) _ (by omega), pk_in n _ hn, pk_in n _ hn, fun b1 hb1 => ?_⟩⟩
    · have hw0 : w = 0 := by omega
      subst hw0
      exact hQ _ ⟨k, F, by omega, hS, hD, hT rfl, by omega, hG'⟩ hC'
    · rw [jl_28 (by omega)] at hb1
      subst hb1
      rw [jl_mask (by omega)]
      have hk2 : k < 3 := by
        rcases Nat.lt_or_ge k 3 with e | e
        · exact e
        · have : k = 3 := by omega
          subst this
          have : 1 * 268435456 ^ 3 ≤ w * 268435456 ^ 3 := Nat.mul_le_mul_right _ (by omega)
          omega
      have hdm := Nat.div_add_mod w 268435456
      have hml := Nat.mod_lt w (show 0 < 268435456 by omega)
      have hstep : vq (upN F k (w % 268435456)) (k + 1) + w / 268435456 * 268435456 ^ (k + 1) = v := by
        rw [vq_up, Nat.pow_succ]
        have : w * 268435456 ^ k = (268435456 * (w / 268435456) + w % 268435456) * 268435456 ^ k := by rw [hdm]
        rw [this] at hV
        generalize 268435456 ^ k = P at *
        grind
      refine hN _ _ ⟨k + 1, w / 268435456, upN F k (w % 268435456), hk2, rfl, by omega, ?_, hG', hD.step hn (by omega) hml, ?_, hstep, (hC'.wL hn (by omega) rfl _).wS hn rfl _⟩ ?_
      · rw [rS_wS hn, if_pos rfl, rS_wL, hS, nI_1]
      · intro h1 _
        rw [Nat.add_sub_cancel, upN_e]
        omega
      · show (lN (w / 268435456)).toBitVec.toNat < (lN w).toBitVec.toNat
        rw [wb_tn (by omega), wb_tn (by omega)]
        omega
  show wpX5_put_0 (nI n) y Q ρ
  unfold wpX5_put_0 wpX5_put_14
  have hC : ∀ g, Cr ρ (wG ρ (nI n) g) (fun z => z = n) := cr_wG hn
  have hG : ∀ g, rG (wG ρ (nI n) g) n = g := fun g => by rw [rG_wG hn, if_pos rfl]
  rw [jl_ge, lg_le]
  rcases hg with ⟨h1, h2⟩ | ⟨h1, h0, h2⟩
  · subst h2
    rw [show (0 : Int64) = lN 0 from rfl, pk_lLE (by omega) (by omega), pk_lLE (by omega) (by omega)]
    refine ⟨fun _ => ⟨fun _ => ⟨fun h => ⟨pk_in n _ hn, key _ (hC _) ?_⟩, fun h => ⟨pk_in n _ hn, key _ (hC _) ?_⟩⟩, fun h => absurd (Nat.zero_le _) h⟩, fun h => absurd (Nat.zero_le _) h⟩
    · rw [hG, h1, show v = 0 by omega]
      rfl
    · rw [hG, sg32_pos (by omega)]
  · have hneg : ¬ (0 : Int64) ≤ -(lN v) := by
      rw [Int64.le_iff_toInt_le, Int64.toInt_neg, pk_lT (by omega)]
      show ¬ (0 : Int) ≤ _
      rw [Int.bmod_eq_of_le (by omega) (by omega)]
      omega
    subst h2
    refine ⟨fun h => absurd h hneg, fun _ b2 hb2 => ?_⟩
    have : b2 = lN v := by rw [hb2, Int64.neg_neg]
    subst this
    refine ⟨fun h => absurd h hneg, fun _ => ⟨pk_in n _ hn, key _ (hC _) ?_⟩⟩
    rw [hG, sg32_lt (by omega)]
