/-! PURE: meet, divideAll, makePrimitive, makeSmall -/
theorem RpW.bd {σ : CS} {w : Nat} {x : Int} (h : RpW σ w x) : x.natAbs < 2147483648 ^ capW w := by
  obtain ⟨n, h1, h2, h3, h4, h5, h6⟩ := h
  rw [h5]
  exact Nat.lt_of_lt_of_le (mag_lt _ _) (pow_mono h1)
theorem RpW.bd3 {σ : CS} {w : Nat} {x : Int} (h : RpW σ w x) : x.natAbs < 2147483648 ^ 300 := lt_cap h.bd (capW_le w)
def tS (w : Nat) : Prop := 320 ≤ w ∧ w < 323
theorem two_step {X Y t K : Nat} (hY : Y ≠ 0) (h : t = 0 ∨ Y < X) (hK : X * Y * 2 ^ (t - 1) ≤ K) : Y * (X % Y) * 2 ^ (t + 1 - 1) ≤ K := by
  rw [Nat.add_sub_cancel]
  rcases h with h | h
  · subst h
    refine Nat.le_trans ?_ hK
    rw [Nat.pow_zero, Nat.mul_one, Nat.mul_one, Nat.mul_comm X Y]
    exact Nat.mul_le_mul_left _ (Nat.mod_le _ _)
  · rcases Nat.eq_zero_or_pos t with e | e
    · subst e
      refine Nat.le_trans ?_ hK
      rw [Nat.pow_zero, Nat.mul_one, Nat.mul_one, Nat.mul_comm X Y]
      exact Nat.mul_le_mul_left _ (Nat.mod_le _ _)
    · obtain ⟨s, rfl⟩ : ∃ s, t = s + 1 := ⟨t - 1, by omega⟩
      rw [Nat.add_sub_cancel] at hK
      refine Nat.le_trans ?_ hK
      have h2 : 2 * (X % Y) ≤ X := by
        have h3 := Nat.mod_lt X (Nat.pos_of_ne_zero hY)
        have h4 := Nat.div_add_mod X Y
        have h5 : 1 ≤ X / Y := (Nat.one_le_div_iff (Nat.pos_of_ne_zero hY)).mpr (Nat.le_of_lt h)
        have h6 : Y * 1 ≤ Y * (X / Y) := Nat.mul_le_mul_left _ h5
        omega
      rw [Nat.pow_succ, show Y * (X % Y) * (2 ^ s * 2) = Y * (2 * (X % Y)) * 2 ^ s by grind, Nat.mul_comm X Y]
      exact Nat.mul_le_mul_right _ (Nat.mul_le_mul_left _ h2)
theorem turns {X Y t : Nat} (hY : Y ≠ 0) (h : t = 0 ∨ Y < X) (hK : X * Y * 2 ^ (t - 1) ≤ 2147483648 ^ 600) : t < 20000 := by
  rcases Nat.eq_zero_or_pos t with e | e
  · omega
  have hX : X ≠ 0 := by omega
  have h1 : 2 ^ (t - 1) ≤ 2 ^ 18600 := by
    refine Nat.le_trans (Nat.le_mul_of_pos_left _ (Nat.mul_pos (Nat.pos_of_ne_zero hX) (Nat.pos_of_ne_zero hY))) (Nat.le_trans hK ?_)
    rw [show (2147483648 : Nat) = 2 ^ 31 by decide, ← Nat.pow_mul]
    exact Nat.le_refl _
  have := (Nat.pow_le_pow_iff_right (by omega)).mp h1
  omega
theorem sp_meet {σ : CS} {x y : Int} {Q : CS → Prop} (h0 : RpW σ 320 x) (h1 : RpW σ 321 y) (hQ : ∀ σ' g, RpW σ' 320 g → g.natAbs = Nat.gcd x.natAbs y.natAbs → Ch σ σ' tS → Q σ') : wpX0_meet σ Q := by
  show ∃ n, lq4 (wbX0_meet_12 Q) n 320 321 (0 : Int32) σ
  have c322 : capW 322 = 300 := rfl
  have c320 : capW 320 = 300 := rfl
  refine lq4_i (I := fun v1 v2 a τ => ∃ t X Y, a = nI t ∧ ((v1 = 320 ∧ v2 = 321) ∨ (v1 = 321 ∧ v2 = 320)) ∧ RpW τ v1 X ∧ RpW τ v2 Y ∧ Nat.gcd X.natAbs Y.natAbs = Nat.gcd x.natAbs y.natAbs ∧ X.natAbs * Y.natAbs * 2 ^ (t - 1) ≤ 2147483648 ^ 600 ∧ (t = 0 ∨ Y.natAbs < X.natAbs) ∧ t < 30000 ∧ Ch σ τ tS) (μ := fun _ _ a _ => 40000 - a.toNatClampNeg) ?_ _ _ _ _ ⟨0, x, y, rfl, Or.inl ⟨rfl, rfl⟩, h0, h1, rfl, ?_, Or.inl rfl, by omega, Ch.refl _ _⟩
  · rintro N v1 v2 a τ ⟨t, X, Y, rfl, hv, hX, hY, hg, hK, ht, ht2, hC⟩ hN
    have hend : Y = 0 → wpX0_meet_48 Q v1 τ := by
      intro hY0
      have hgX : X.natAbs = Nat.gcd x.natAbs y.natAbs := by
        rw [← hg, hY0]
        exact (Nat.gcd_zero_right _).symm
      unfold wpX0_meet_48
      refine ⟨fun e => ?_, fun e => ?_⟩
      · subst e
        exact hQ τ X hX hgX hC
      · exact sp_load hX (by rw [c320]; exact hX.bd3) (fun τ2 hr2 hc2 => hQ τ2 X hr2 hgX (hC.trans (hc2.mono (fun w hw => ⟨by omega, by omega⟩))))
    unfold wbX0_meet_12
    refine pk_le 1000000 t (fun h => absurd h (by omega)) (fun h => ⟨fun h3 => hend ?_, fun h3 => ?_⟩) rfl rfl (by omega) (by omega)
    · rw [hY.sg] at h3
      exact sg32_eq0.mp h3
    · have hY0 : Y ≠ 0 := fun e => h3 (by rw [hY.sg, e]; rfl)
      have hYn : Y.natAbs ≠ 0 := by omega
      have htt := turns hYn ht hK
      refine sp_divide (by omega) (by omega) (by omega) hX hY (by rw [c322]; exact hX.bd3) (fun τ2 hr2 hr3 hc2 a5 ha5 => ?_)
      rw [nI_1] at ha5
      subst ha5
      refine hN _ _ _ _ ⟨t + 1, Y, X.tmod Y, rfl, by omega, hY.ch hc2 (by omega), hr3, ?_, ?_, Or.inr ?_, by omega, hC.trans (hc2.mono (fun w hw => ⟨by omega, by omega⟩))⟩ ?_
      · rw [Int.natAbs_tmod, ← hg, Nat.gcd_comm X.natAbs, Nat.gcd_rec Y.natAbs X.natAbs, Nat.gcd_comm]
      · rw [Int.natAbs_tmod]
        exact two_step hYn ht hK
      · rw [Int.natAbs_tmod]
        exact Nat.mod_lt _ (by omega)
      · show 40000 - (nI (t + 1)).toNatClampNeg < 40000 - (nI t).toNatClampNeg
        rw [nI_clamp (by omega), nI_clamp (by omega)]
        omega
  · show x.natAbs * y.natAbs * 2 ^ 0 ≤ _
    rw [Nat.pow_zero, Nat.mul_one, show (600 : Nat) = 300 + 300 from rfl, Nat.pow_add]
    exact Nat.mul_le_mul (Nat.le_of_lt h0.bd3) (Nat.le_of_lt h1.bd3)
theorem tdiv_le (a b : Int) : (a.tdiv b).natAbs ≤ a.natAbs := by
  rw [Int.natAbs_tdiv]
  exact Nat.div_le_self _ _
theorem tdiv_ne {a b : Int} (h : b ∣ a) (ha : a ≠ 0) : a.tdiv b ≠ 0 := by
  intro h2
  have := Int.tdiv_mul_cancel h
  rw [h2, Int.zero_mul] at this
  exact ha this.symm
theorem Pl.i9 {σ : CS} {p : Nat} {c : Nat → Int} (h : Pl σ p c) : ∀ i, 9 ≤ i → c i = 0 := fun _ hi => h.top hi
theorem dl_same {c d : Nat → Int} (h9 : ∀ i, 9 ≤ i → c i = 0) (h1 : ∀ i, c i = 0 → d i = 0) (h2 : ∀ i, c i ≠ 0 → d i ≠ 0) : dl d = dl c :=
  dl_uniq (dl_le c) (fun i hi => h1 i (dl_zero h9 hi)) (fun h => h2 _ (ln_top h))
theorem sp_divideAll {p w2 : Nat} {c : Nat → Int} {y : Int} {σ : CS} {Q : CS → Prop} (hp : p < 20) (hw : 320 ≤ w2) (hw2 : w2 ≠ 322) (h : Pl σ p c) (hy : RpW σ w2 y) (hd : ∀ i, y ∣ c i) (hy0 : y ≠ 0)
    (hQ : ∀ σ', Pl σ' p (fun i => (c i).tdiv y) → Cg σ σ' (fun w => inP p w ∨ w = 322) (fun _ => False) → Q σ') : wpX0_divideAll p w2 σ Q := by
  have hdc := dl_le c
  have hlc := h.len
  have t1 := tlen_le p
  have c322 : capW 322 = 300 := rfl
  show wpX0_divideAll_0 p w2 Q σ
  unfold wpX0_divideAll_0
  have hloop : wpX0_divideAll_15 p w2 Q σ := by
    unfold wpX0_divideAll_15
    refine lp_up (I := fun k τ => (∀ i, i < tlen p → RpW τ (16 * p + i) (if i < k then (c i).tdiv y else c i)) ∧ Cg σ τ (fun w => inP p w ∨ w = 322) (fun _ => False)) (dl c) (by omega) ?_ σ ⟨fun i hi => by rw [if_neg (by omega)]; exact h.1 i hi, Cg.refl _ _ _⟩
    rintro N k τ hk ⟨hR, hC⟩ hN
    unfold wbX0_divideAll_17
    rw [hC.2.1 p (fun z => z), h.2.2, deg_lt hdc (by omega), nI_clamp (by omega)]
    refine ⟨fun hh => ?_, fun hh => ⟨pk_in k _ (by omega), ?_⟩⟩
    · have e : k = dl c := by omega
      subst e
      have hdd : dl (fun i => (c i).tdiv y) = dl c := dl_same h.i9 (fun i hi => by show (c i).tdiv y = 0; rw [hi, Int.zero_tdiv]) (fun i hi => tdiv_ne (hd i) hi)
      refine hQ τ ⟨fun i hi => ?_, fun i hi => ?_, ?_⟩ hC
      · have := hR i hi
        by_cases e : i < dl c
        · rw [if_pos e] at this
          exact this
        · rw [if_neg e] at this
          show RpW τ _ ((c i).tdiv y)
          rw [h.zero (by omega), Int.zero_tdiv]
          rw [h.zero (by omega)] at this
          exact this
      · show (c i).tdiv y = 0
        rw [h.2.1 i hi, Int.zero_tdiv]
      · rw [hdd, hC.2.1 p (fun z => z)]
        exact h.2.2
    · have hr := hR k (by omega)
      rw [if_neg (by omega)] at hr
      have hyτ : RpW τ w2 y := hy.cg hC (fun hz => by rcases hz with hz | hz; exact absurd hz.2 (by omega); exact hw2 hz)
      refine sp_divide (by omega) (by omega) (by omega) hr hyτ (by rw [c322]; exact hr.bd3) (fun τ2 hr2 hr3 hc2 => ⟨pk_in k _ (by omega), sp_load hr2 (Nat.lt_of_le_of_lt (tdiv_le _ _) hr.bd) (fun τ3 hr4 hc3 a7 ha7 => ?_)⟩)
      subst ha7
      refine hN τ3 (by omega) ⟨fun i hi => ?_, (hC.trans ((hc2.cg _).mono (fun w hw => by rcases hw with hw | hw; exact Or.inl ⟨by omega, by omega⟩; exact Or.inr hw) (fun _ z => z))).trans ((hc3.p (by omega)).mono (fun _ z => Or.inl z) (fun _ z => z))⟩
      by_cases e : i = k
      · subst e
        rw [if_pos (by omega)]
        exact hr4
      · have := ((hR i hi).ch hc2 (by omega)).ch hc3 (by omega)
        by_cases e2 : i < k
        · rw [if_pos e2] at this
          rw [if_pos (by omega)]
          exact this
        · rw [if_neg e2] at this
          rw [if_neg (by omega)]
          exact this
  refine sp_isUnit hy ⟨fun _ => hloop, fun hu => ⟨fun _ => hloop, fun hg => ?_⟩⟩
  have hy1 : y = 1 := by
    have h1 : y.natAbs = 1 := by
      by_cases e : y.natAbs = 1
      · exact e
      · rw [if_neg e] at hu
        exact absurd rfl hu
    rw [hy.sg] at hg
    rcases Int.lt_or_le y 0 with h2 | h2
    · rw [sg32_lt h2] at hg
      exact absurd (by decide) hg
    · omega
  refine hQ σ ?_ (Cg.refl _ _ _)
  rw [hy1]
  have : (fun i => (c i).tdiv 1) = c := funext (fun i => Int.tdiv_one _)
  rw [this]
  exact h
/-- the content -/
def cntN (c : Nat → Int) : Nat → Nat
  | 0 => 0
  | n + 1 => Nat.gcd (cntN c n) (c n).natAbs
def cnt (c : Nat → Int) : Nat := cntN c 9
theorem cntN_dvd {c : Nat → Int} {n i : Nat} (h : i < n) : cntN c n ∣ (c i).natAbs := by
  induction n with
  | zero => omega
  | succ n ih =>
    show Nat.gcd _ _ ∣ _
    rcases Nat.eq_or_lt_of_le (Nat.le_of_lt_succ h) with e | e
    · rw [e]
      exact Nat.gcd_dvd_right _ _
    · exact Nat.dvd_trans (Nat.gcd_dvd_left _ _) (ih e)
theorem dvd_cntN {c : Nat → Int} {n e : Nat} (h : ∀ i, i < n → e ∣ (c i).natAbs) : e ∣ cntN c n := by
  induction n with
  | zero => exact Nat.dvd_zero _
  | succ n ih => exact Nat.dvd_gcd (ih (fun i hi => h i (by omega))) (h n (by omega))
theorem cnt_dvd {c : Nat → Int} (h9 : ∀ i, 9 ≤ i → c i = 0) (i : Nat) : (cnt c : Int) ∣ c i := by
  rcases Nat.lt_or_ge i 9 with h | h
  · exact Int.ofNat_dvd_left.mpr (cntN_dvd h)
  · rw [h9 i h]
    exact Int.dvd_zero _
theorem dvd_cnt {c : Nat → Int} {e : Nat} (h : ∀ i, (e : Int) ∣ c i) : e ∣ cnt c := dvd_cntN (fun i _ => Int.ofNat_dvd_left.mp (h i))
theorem cnt_ne {c : Nat → Int} (h : dl c ≠ 0) : cnt c ≠ 0 := by
  intro h2
  have h3 : cnt c ∣ (c (dl c - 1)).natAbs := cntN_dvd (by have := dl_le c; omega)
  rw [h2, Nat.zero_dvd] at h3
  have : c (dl c - 1) ≠ 0 := ln_top h
  omega
/-- the primitive part -/
def ppos (c : Nat → Int) (i : Nat) : Int := if lc c < 0 then -((c i).tdiv (cnt c)) else (c i).tdiv (cnt c)
theorem sp_mkPrim {p : Nat} {c : Nat → Int} {σ : CS} {Q : CS → Prop} (hp : p < 20) (h : Pl σ p c)
    (hQ : ∀ σ', Pl σ' p (ppos c) → Cg σ σ' (fun w => inP p w ∨ tS w) (fun _ => False) → Q σ') : wpX0_makePrimitive p σ Q := by
  have hdc := dl_le c
  have hlc := h.len
  have t1 := tlen_le p
  have h9 := h.i9
  have c321 : capW 321 = 300 := rfl
  show wpX0_makePrimitive_0 p Q σ
  unfold wpX0_makePrimitive_0
  refine sp_clear (fun σ1 hr1 hc1 a17 ha17 => ?_)
  rw [hc1.d, h.2.2] at ha17
  have hC0 : Cg σ σ1 (fun w => inP p w ∨ tS w) (fun _ => False) := (hc1.cg _).mono (fun w hw => Or.inr ⟨by omega, by omega⟩) (fun _ z => z)
  have hst : ∀ {τ : CS}, Ch σ τ tS → Pl τ p c := fun hC => h.cg (hC.cg (fun _ => False)) (fun w hw hz => absurd hw.2 (by unfold tS at hz; omega)) (fun z => z)
  have hend : ∀ τ g, Ch σ τ tS → RpW τ 320 g → (dl c ≠ 0 → g.natAbs = cnt c) → wpX0_makePrimitive_49 p Q τ := by
    intro τ g hC hg hgc
    unfold wpX0_makePrimitive_49
    have hP := hst hC
    have hCg : Cg σ τ (fun w => inP p w ∨ tS w) (fun _ => False) := (hC.cg _).mono (fun w hw => Or.inr hw) (fun _ z => z)
    by_cases hz : dl c = 0
    · -- nothing to divide
      have hc0 : ∀ i, c i = 0 := fun i => h.zero (by omega)
      have hpp : ppos c = c := funext (fun i => by unfold ppos; rw [hc0 i, Int.zero_tdiv]; split <;> rfl)
      have hnext : wpX2_leadSign p τ (fun r3 σ4 => (0 ≤ r3 → Q σ4) ∧ (¬ 0 ≤ r3 → wpX2_negate p σ4 (fun σ6 => Q σ6))) := by
        refine sp_leadSign hP ⟨fun _ => hQ τ (by rw [hpp]; exact hP) hCg, fun h3 => ?_⟩
        unfold lc at h3
        rw [if_pos hz] at h3
        exact absurd (by decide) h3
      have hl : wpX0_divideAll_15 p 320 (fun σ2 => wpX2_leadSign p σ2 (fun r3 σ4 => (0 ≤ r3 → Q σ4) ∧ (¬ 0 ≤ r3 → wpX2_negate p σ4 (fun σ6 => Q σ6)))) τ := by
        refine ⟨1, ?_⟩
        show wbX0_divideAll_17 p 320 _ _ _ _
        unfold wbX0_divideAll_17
        rw [hP.2.2, show (0 : Int32) = nI 0 from rfl, deg_lt hdc (by omega)]
        exact ⟨fun _ => hnext, fun h => absurd (by omega) h⟩
      show wpX0_divideAll_0 p 320 _ τ
      unfold wpX0_divideAll_0
      exact sp_isUnit hg ⟨fun _ => hl, fun _ => ⟨fun _ => hl, fun _ => hnext⟩⟩
    · have hgn := hgc hz
      have hcz := cnt_ne hz
      have hg0 : g ≠ 0 := by omega
      have hgd : ∀ i, g ∣ c i := fun i => by
        have := cnt_dvd h9 i
        rw [← hgn] at this
        exact Int.natAbs_dvd.mp this
      refine sp_divideAll hp (by omega) (by omega) hP hg hgd hg0 (fun τ2 hP2 hC2 => sp_leadSign hP2 ?_)
      have hC2' : Cg σ τ2 (fun w => inP p w ∨ tS w) (fun _ => False) := hCg.trans (hC2.mono (fun w hw => by rcases hw with hw | hw; exact Or.inl hw; exact Or.inr ⟨by omega, by omega⟩) (fun _ z => z))
      have hdd : dl (fun i => (c i).tdiv g) = dl c := dl_same h9 (fun i hi => by show (c i).tdiv g = 0; rw [hi, Int.zero_tdiv]) (fun i hi => tdiv_ne (hgd i) hi)
      have hlc2 : lc (fun i => (c i).tdiv g) = (lc c).tdiv g := by
        unfold lc
        rw [hdd, if_neg hz, if_neg hz]
      have hlg : g ∣ lc c := by
        unfold lc
        rw [if_neg hz]
        exact hgd _
      have hl0 := lc_ne hz
      rw [hlc2]
      -- signs
      rcases (show g = (cnt c : Int) ∨ g = -(cnt c : Int) by omega) with e | e
      · have hsg : (lc c).tdiv g < 0 ↔ lc c < 0 := by
          have h1 := Int.tdiv_mul_cancel hlg
          have h2 := tdiv_ne hlg hl0
          constructor
          · intro h3
            rw [← h1]
            exact Int.mul_neg_of_neg_of_pos h3 (by omega)
          · intro h3
            rcases Int.lt_or_le ((lc c).tdiv g) 0 with h4 | h4
            · exact h4
            · have : 0 ≤ (lc c).tdiv g * g := Int.mul_nonneg h4 (by omega)
              omega
        by_cases hn : lc c < 0
        · rw [sg32_lt (hsg.mpr hn)]
          refine ⟨fun h => absurd h (by decide), fun _ => sp_pneg hP2 (fun τ3 hP3 hC3 => hQ τ3 ?_ (hC2'.trans (hC3.mono (fun _ z => Or.inl z) (fun _ z => z))))⟩
          have : ppos c = fun i => -((c i).tdiv g) := funext (fun i => by unfold ppos; rw [if_pos hn, e])
          rw [this]
          exact hP3
        · rw [sg32_pos (by have := tdiv_ne hlg hl0; have := mt hsg.mp hn; omega)]
          refine ⟨fun _ => hQ τ2 ?_ hC2', fun h => absurd (by decide) h⟩
          have : ppos c = fun i => (c i).tdiv g := funext (fun i => by unfold ppos; rw [if_neg hn, e])
          rw [this]
          exact hP2
      · have hsg : (lc c).tdiv g < 0 ↔ ¬ lc c < 0 := by
          have h1 := Int.tdiv_mul_cancel hlg
          have h2 := tdiv_ne hlg hl0
          constructor
          · intro h3 h4
            have := Int.mul_nonneg_of_nonpos_of_nonpos (Int.le_of_lt h3) (show g ≤ 0 by omega)
            omega
          · intro h3
            rcases Int.lt_or_le ((lc c).tdiv g) 0 with h4 | h4
            · exact h4
            · have : (lc c).tdiv g * g < 0 := Int.mul_neg_of_pos_of_neg (by omega) (by omega)
              omega
        by_cases hn : lc c < 0
        · rw [sg32_pos (by have := tdiv_ne hlg hl0; have := fun h => hsg.mp h hn; omega)]
          refine ⟨fun _ => hQ τ2 ?_ hC2', fun h => absurd (by decide) h⟩
          have : ppos c = fun i => (c i).tdiv g := funext (fun i => by unfold ppos; rw [if_pos hn, e, Int.tdiv_neg])
          rw [this]
          exact hP2
        · rw [sg32_lt (hsg.mpr hn)]
          refine ⟨fun h => absurd h (by decide), fun _ => sp_pneg hP2 (fun τ3 hP3 hC3 => hQ τ3 ?_ (hC2'.trans (hC3.mono (fun _ z => Or.inl z) (fun _ z => z))))⟩
          have : ppos c = fun i => -((c i).tdiv g) := funext (fun i => by unfold ppos; rw [if_neg hn, e, Int.tdiv_neg, Int.neg_neg])
          rw [this]
          exact hP3
  refine lp_dn (I := fun k τ => ∃ g, RpW τ 320 g ∧ (∀ i, k ≤ i → i < 9 → g.natAbs ∣ (c i).natAbs) ∧ (∀ e, (∀ i, k ≤ i → i < 9 → e ∣ (c i).natAbs) → e ∣ g.natAbs) ∧ Ch σ τ tS) (dl c) (by omega) ?_ σ1 ⟨0, hr1, fun i hi h3 => by rw [h.zero hi]; exact Nat.dvd_refl _, fun e _ => Nat.dvd_zero _, hc1.mono (fun w hw => ⟨by omega, by omega⟩)⟩ ha17
  rintro N k τ hk ⟨g, hg, hg1, hg2, hC⟩ hN
  unfold wbX0_makePrimitive_12
  rw [dg_lt0 (by omega)]
  refine ⟨fun hk0 => hend τ g hC hg (fun _ => ?_), fun hk0 => sp_isUnit hg ⟨fun hu => hend τ g hC hg (fun _ => ?_), fun hu => ?_⟩⟩
  · subst hk0
    exact Nat.dvd_antisymm (dvd_cntN (fun i hi => hg1 i (by omega) hi)) (hg2 _ (fun i _ hi => cntN_dvd hi))
  · have h1 : g.natAbs = 1 := by
      by_cases e : g.natAbs = 1
      · exact e
      · rw [if_neg e] at hu
        exact absurd rfl hu
    have h2 : cnt c ∣ g.natAbs := hg2 _ (fun i _ hi => cntN_dvd hi)
    rw [h1] at h2 ⊢
    exact (Nat.dvd_one.mp h2).symm
  · obtain ⟨u, rfl⟩ : ∃ u, k = u + 1 := ⟨k - 1, by omega⟩
    have e1 : nI (u + 1) - 1 = nI u := by rw [deg_s (by omega), Nat.add_sub_cancel]
    rw [e1, nI_clamp (by omega)]
    have hu2 := (hst hC).1 u (by omega)
    refine ⟨pk_in u _ (by omega), sp_load hu2 (by rw [c321]; exact hu2.bd3) (fun τ2 hr2 hc2 => sp_meet (hg.ch hc2 (by omega)) hr2 (fun τ3 g3 hg3 he3 hc3 a14 ha14 => ?_))⟩
    subst ha14
    refine hN u τ3 rfl ⟨g3, hg3, fun i hi h3 => ?_, fun e he => ?_, (hC.trans (hc2.mono (fun w hw => ⟨by omega, by omega⟩))).trans hc3⟩
    · rw [he3]
      rcases Nat.eq_or_lt_of_le hi with e | e
      · rw [← e]
        exact Nat.gcd_dvd_right _ _
      · exact Nat.dvd_trans (Nat.gcd_dvd_left _ _) (hg1 i (by omega) h3)
    · rw [he3]
      exact Nat.dvd_gcd (hg2 e (fun i hi h3 => he i (by omega) h3)) (he u (Nat.le_refl _) (by omega))
theorem sp_mkSmall {p1 p2 p3 : Nat} {m x y : Nat → Int} {σ : CS} {Q : CS → Prop} (hp1 : p1 < 20) (hp2 : p2 < 20) (hp3 : p3 < 20) (h1 : Pl σ p1 m) (h2 : Pl σ p2 x) (h3 : Pl σ p3 y) (hm0 : dl m ≠ 0) (hx0 : dl x ≠ 0) (hy0 : dl y ≠ 0)
    (hg : ∀ g : Int, g.natAbs = Nat.gcd (lc x).natAbs (lc y).natAbs → ∀ i, lc m ∣ m i * g ∧ (m i * g).natAbs < 2147483648 ^ 299 ∧ ((m i * g).tdiv (lc m)).natAbs < 2147483648 ^ capP p1)
    (hQ : ∀ σ' (g : Int), g.natAbs = Nat.gcd (lc x).natAbs (lc y).natAbs → Pl σ' p1 (fun i => (m i * g).tdiv (lc m)) → Cg σ σ' (fun w => inP p1 w ∨ (320 ≤ w ∧ w < 324)) (fun _ => False) → Q σ') : wpX0_makeSmall p1 p2 p3 σ Q := by
  have hdm := dl_le m
  have hdx := dl_le x
  have hdy := dl_le y
  have hlm := h1.len
  have hlx := h2.len
  have hly := h3.len
  have t1 := tlen_le p1
  have t2 := tlen_le p2
  have t3 := tlen_le p3
  show wpX0_makeSmall_0 p1 p2 p3 Q σ
  unfold wpX0_makeSmall_0
  rw [h1.2.2, h2.2.2, h3.2.2, deg_neg hdm, deg_neg hdx, deg_nn hdy]
  refine ⟨fun h => absurd h hm0, fun _ => ⟨fun h => absurd h hx0, fun _ => ⟨fun _ => ?_, fun h => absurd hy0 h⟩⟩⟩
  rw [deg_s hx0, nI_clamp (by omega)]
  have hrx := h2.1 (dl x - 1) (by omega)
  have hT : ∀ {τ τ' : CS} {n : Nat}, Ch τ τ' (fun z => z = n) → 320 ≤ n ∧ n < 324 → Cg τ τ' (fun w => 320 ≤ w ∧ w < 324) (fun _ => False) := fun h hn => (h.cg _).mono (fun w hw => by omega) (fun _ z => z)
  have hst : ∀ {τ : CS} {p : Nat} {c : Nat → Int}, p < 20 → Pl σ p c → Cg σ τ (fun w => 320 ≤ w ∧ w < 324) (fun _ => False) → Pl τ p c := fun hp hP hC => hP.cg hC (fun w hw h => absurd hw.2 (by omega)) (fun z => z)
  refine ⟨pk_in (dl x - 1) _ (by omega), sp_load hrx hrx.bd3 (fun τ1 hr1 hc1 => ?_)⟩
  have hC1 := hT hc1 (by omega)
  have hP3 := hst hp3 h3 hC1
  rw [hP3.2.2, deg_s hy0, nI_clamp (by omega)]
  have hry := hP3.1 (dl y - 1) (by omega)
  refine ⟨pk_in (dl y - 1) _ (by omega), sp_load hry hry.bd3 (fun τ2 hr2 hc2 => sp_meet (hr1.ch hc2 (by omega)) hr2 (fun τ3 g hr3 hg3 hc3 => ?_))⟩
  have hC3 := (hC1.trans (hT hc2 (by omega))).trans ((hc3.cg _).mono (fun w hw => by unfold tS at hw; omega) (fun _ z => z))
  have hP1 := hst hp1 h1 hC3
  rw [hP1.2.2, deg_s hm0, nI_clamp (by omega)]
  have hrm := hP1.1 (dl m - 1) (by omega)
  rw [← lc_eq hx0, ← lc_eq hy0] at hg3
  have hgg := hg g hg3
  have hlm0 := lc_ne hm0
  refine ⟨pk_in (dl m - 1) _ (by omega), sp_load hrm hrm.bd3 (fun τ4 hr4 hc4 => ?_)⟩
  rw [← lc_eq hm0] at hr4
  have hC4 := hC3.trans (hT hc4 (by omega))
  have hP4 := hst hp1 h1 hC4
  refine lp_up (I := fun k τ => (∀ i, i < tlen p1 → RpW τ (16 * p1 + i) (if i < k then (m i * g).tdiv (lc m) else m i)) ∧ RpW τ 320 g ∧ RpW τ 323 (lc m) ∧ Cg σ τ (fun w => inP p1 w ∨ (320 ≤ w ∧ w < 324)) (fun _ => False)) (dl m) (by omega) ?_ τ4 ⟨fun i hi => by rw [if_neg (by omega)]; exact hP4.1 i hi, hr3.ch hc4 (by omega), hr4, hC4.mono (fun _ z => Or.inr z) (fun _ z => z)⟩
  rintro N k τ hk ⟨hR, h320, h323, hC⟩ hN
  unfold wbX0_makeSmall_77
  rw [hC.2.1 p1 (fun z => z), h1.2.2, deg_lt hdm (by omega), nI_clamp (by omega)]
  refine ⟨fun hh => ?_, fun hh => ⟨pk_in k _ (by omega), ?_⟩⟩
  · have e : k = dl m := by omega
    subst e
    have hg0 : g ≠ 0 := by
      intro e
      rw [e] at hg3
      have : 0 < Nat.gcd (lc x).natAbs (lc y).natAbs := Nat.gcd_pos_of_pos_left _ (by have := lc_ne hx0; omega)
      omega
    have hdd : dl (fun i => (m i * g).tdiv (lc m)) = dl m := dl_same h1.i9 (fun i hi => by show (m i * g).tdiv _ = 0; rw [hi, Int.zero_mul, Int.zero_tdiv]) (fun i hi => tdiv_ne (hgg i).1 (Int.mul_ne_zero hi hg0))
    refine hQ τ g hg3 ⟨fun i hi => ?_, fun i hi => ?_, ?_⟩ hC
    · have := hR i hi
      by_cases e : i < dl m
      · rw [if_pos e] at this
        exact this
      · rw [if_neg e] at this
        show RpW τ _ ((m i * g).tdiv _)
        rw [h1.zero (by omega), Int.zero_mul, Int.zero_tdiv]
        rw [h1.zero (by omega)] at this
        exact this
    · show (m i * g).tdiv _ = 0
      rw [h1.2.1 i hi, Int.zero_mul, Int.zero_tdiv]
    · rw [hdd, hC.2.1 p1 (fun z => z)]
      exact h1.2.2
  · have hr := hR k (by omega)
    rw [if_neg (by omega)] at hr
    obtain ⟨g1, g2, g3⟩ := hgg k
    refine sp_prod (by omega) (by omega) hr h320 rfl g2 (fun τ5 hr5 hc5 => sp_divide (by omega) (by omega) (by omega) hr5 (h323.ch hc5 (by omega)) (lt_cap g2 (by decide)) (fun τ6 hr6 hr7 hc6 => ⟨pk_in k _ (by omega), sp_load hr6 (by rw [cap_t p1 hp1 k (by omega)]; exact g3) (fun τ7 hr8 hc7 a9 ha9 => ?_)⟩))
    subst ha9
    refine hN τ7 (by omega) ⟨fun i hi => ?_, ((h320.ch hc5 (by omega)).ch hc6 (by omega)).ch hc7 (by omega), ((h323.ch hc5 (by omega)).ch hc6 (by omega)).ch hc7 (by omega), ((hC.trans ((hc5.cg _).mono (fun w hw => Or.inr (by omega)) (fun _ z => z))).trans ((hc6.cg _).mono (fun w hw => Or.inr (by omega)) (fun _ z => z))).trans ((hc7.p (by omega)).mono (fun _ z => Or.inl z) (fun _ z => z))⟩
    by_cases e : i = k
    · subst e
      rw [if_pos (by omega)]
      exact hr8
    · have := (((hR i hi).ch hc5 (by omega)).ch hc6 (by omega)).ch hc7 (by omega)
      by_cases e2 : i < k
      · rw [if_pos e2] at this
        rw [if_pos (by omega)]
        exact this
      · rw [if_neg e2] at this
        rw [if_neg (by omega)]
        exact this
