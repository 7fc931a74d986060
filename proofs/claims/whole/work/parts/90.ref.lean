/-! PURE: the reference's deriveTo, over -/
def dvS2 (q n : Nat) : Prop := inR q n ∨ tmR n
theorem sp_rderive {p q : Nat} {c : Nat → Int} {ρ : RS} {Q : RS → Prop} (hp : p < 24) (hq : q < 24) (hpq : p ≠ q) (h : PR ρ p c) (hb : ∀ i, (c i).natAbs * 16 < 268435456 ^ 430) (hQ : ∀ ρ', PR ρ' q (dv c) → Cq ρ ρ' (dvS2 q) (fun z => z = q) → Q ρ') : wpX5_deriveTo (nI p) (nI q) ρ Q := by
  have hdc := dl_le c
  show wpX5_deriveTo_0 (nI p) (nI q) Q ρ
  unfold wpX5_deriveTo_0
  refine sp_rclear hq (fun τ0 g1 g2 => ?_)
  refine lq2_i (I := fun i3 τ => ∃ k, k ≤ 8 ∧ i3 = nI (k + 1) ∧ (k = 0 ∨ k + 1 ≤ dl c) ∧ (∀ i, i < 9 → RpR τ (9 * q + i) (if i < k then dv c i else 0)) ∧ Cq ρ τ (dvS2 q) (fun z => z = q)) (μ := fun i3 _ => 9 - i3.toNatClampNeg) ?_ _ _ ⟨0, by omega, rfl, Or.inl rfl, fun i hi => by rw [if_neg (by omega)]; exact g1.1 i hi, g2.mono (fun n hn => Or.inl hn) (fun _ z => z)⟩
  rintro N i3 τ ⟨k, hk, rfl, hkd, hL, hC⟩ hN
  have hP : PR τ p c := h.cq hC (fun n hn => by unfold inR at hn; unfold dvS2 inR tmR; omega) hpq
  unfold wbX5_deriveTo_7
  rw [nI_clamp (by omega), hP.2.2, deg_lt (by omega) (by omega)]
  refine ⟨pk_in p _ hp, fun h1 => ?_, fun h1 => ?_⟩
  · refine sp_rmeasure hq (c := dv c) (fun i hi => ?_) (fun i hi => ?_) (fun τ1 g3 g4 => hQ τ1 g3 (hC.trans (g4.mono (fun _ z => z.elim) (fun _ z => z))))
    · have := hL i hi
      by_cases e : i < k
      · rw [if_pos e] at this
        exact this
      · rw [if_neg e] at this
        have e2 : dv c i = 0 := by
          unfold dv
          rw [h.zero (show dl c ≤ i + 1 by omega), Int.zero_mul]
        rw [e2]
        exact this
    · unfold dv
      rw [h.2.1 (i + 1) (by omega), Int.zero_mul]
  · rw [nI_l (by omega)]
    refine sp_rput (n := 221) (v := k + 1) (g := ((k + 1 : Nat) : Int)) (by omega) (by omega) (Or.inl ⟨rfl, rfl⟩) (fun τ1 f1 f2 => ?_)
    rw [at_eq, ia]
    have hck : RpR τ1 (9 * p + (k + 1)) (c (k + 1)) := (hP.1 (k + 1) (by omega)).cr f2 (by omega)
    have hbk := hb (k + 1)
    have hm : (c (k + 1) * ((k + 1 : Nat) : Int)).natAbs < 268435456 ^ 430 := by
      rw [Int.natAbs_mul, Int.natAbs_natCast]
      exact Nat.lt_of_le_of_lt (Nat.mul_le_mul_left _ (by omega)) hbk
    refine sp_rtimes (t := 219) (a := 9 * p + (k + 1)) (b := 221) (by omega) (by omega) (by omega) (by omega) (by omega) hck f1 hm (fun τ2 f3 f4 => ?_)
    rw [show nI (k + 1) - 1 = nI k from nI_pred k, at_eq, ia]
    refine sp_rcopy (a := 219) (t := 9 * q + k) (by omega) (by omega) f3 (fun τ3 f5 f6 a13 ha13 => ?_)
    subst ha13
    have f7 : Cr τ τ3 (fun z => z = 221 ∨ z = 219 ∨ z = 9 * q + k) := ((f2.mono (fun z hz => Or.inl hz)).trans (f4.mono (fun z hz => Or.inr (Or.inl hz)))).trans (f6.mono (fun z hz => Or.inr (Or.inr hz)))
    refine hN _ _ ⟨k + 1, by omega, nI_1 _, Or.inr (by omega), fun i hi => ?_, hC.trans ((f7.cq _).mono (fun z hz => by unfold dvS2 inR tmR; omega) (fun _ z => z))⟩ ?_
    · by_cases e : i = k
      · subst e
        rw [if_pos (by omega)]
        exact f5
      · have := (hL i hi).cr f7 (by omega)
        by_cases e2 : i < k
        · rw [if_pos (by omega)]
          rw [if_pos e2] at this
          exact this
        · rw [if_neg (by omega)]
          rw [if_neg e2] at this
          exact this
    · show 9 - (nI (k + 1) + 1).toNatClampNeg < 9 - (nI (k + 1)).toNatClampNeg
      rw [nI_1, nI_clamp (by omega), nI_clamp (by omega)]
      omega
def ovS (n : Nat) : Prop := inR 20 n ∨ inR 21 n ∨ tmR n
def ovD (p : Nat) : Prop := p = 20 ∨ p = 21
theorem tm_iff {a b : Int} : a.tmod b = 0 ↔ a.natAbs % b.natAbs = 0 := by
  rw [← Int.natAbs_eq_zero, Int.natAbs_tmod]
theorem td_ex {a b : Int} (h : a.tmod b = 0) (ha : a ≠ 0) (hb : b ≠ 0) : (a.tdiv b).natAbs = a.natAbs / b.natAbs ∧ sg32 a * sg32 b = sg32 (a.tdiv b) := by
  have hd := Int.dvd_of_tmod_eq_zero h
  obtain ⟨k, rfl⟩ := hd
  rw [Int.mul_tdiv_cancel_left _ hb]
  have hbp : 0 < b.natAbs := by omega
  refine ⟨by rw [Int.natAbs_mul, Nat.mul_div_cancel_left _ hbp], ?_⟩
  rw [sg32_mul, show b * k * b = b * b * k by grind]
  have hbb : 0 < b * b := by
    rcases Int.lt_or_gt_of_ne hb with e | e
    · exact Int.mul_pos_of_neg_of_neg e e
    · exact Int.mul_pos e e
  rcases sg32_val k with ⟨h1, h2⟩ | ⟨h1, h2⟩ | ⟨h1, h2⟩
  · rw [h2, sg32_lt (Int.mul_neg_of_pos_of_neg hbb h1)]
  · rw [h1, Int.mul_zero]
  · rw [h2, sg32_pos (Int.mul_pos hbb h1)]
theorem p60 : (2147483648 : Nat) ^ 60 ≤ 2147483648 ^ 298 := Nat.pow_le_pow_right (by omega) (by omega)
theorem p299 : (2147483648 : Nat) ^ 299 ≤ 268435456 ^ 430 := by
  rw [show (2147483648 : Nat) = 2 ^ 31 from rfl, show (268435456 : Nat) = 2 ^ 28 from rfl, ← Nat.pow_mul, ← Nat.pow_mul]
  exact Nat.pow_le_pow_right (by omega) (by omega)
theorem p299' : (2147483648 : Nat) ^ 299 = 2147483648 ^ 298 * 2147483648 := Nat.pow_succ 2147483648 298
theorem sp_rover {x y : Nat → Int} {ρ : RS} {Q : Int32 → RS → Prop} (hx : PR ρ 18 x) (hy : PR ρ 19 y) (hy0 : dl y ≠ 0) (hB : dvB y (dl y - 1) 60 (dl x + 1 - dl y) x)
    (hQ : ∀ (r : Int32) ρ', Cq ρ ρ' ovS ovD → (r = 0 ∧ ¬ dvOK y (dl y - 1) (dl x + 1 - dl y) x) ∨ (r = 1 ∧ dvOK y (dl y - 1) (dl x + 1 - dl y) x ∧ PR ρ' 21 (dvQ y (dl y - 1) (dl x + 1 - dl y) x)) → Q r ρ') : wpX5_over ρ Q := by
  have hdx := dl_le x
  have hdy := dl_le y
  obtain ⟨d, hd⟩ : ∃ d, dl y = d + 1 := ⟨dl y - 1, by omega⟩
  have hyd : y d ≠ 0 := by
    have : y (dl y - 1) ≠ 0 := ln_top hy0
    rw [hd, Nat.add_sub_cancel] at this
    exact this
  have hst : dl x + 1 - dl y = dl x - d := by omega
  rw [hst, show dl y - 1 = d by omega] at hB hQ
  show wpX5_over_0 Q ρ
  unfold wpX5_over_0
  refine sp_rclear (p := 21) (by omega) (fun τ0 g1 g2 => ?_)
  have hx0 : PR τ0 18 x := hx.cq g2 (fun n hn => by unfold inR at hn; unfold inR; omega) (by omega)
  refine sp_rcopyAll (p := 18) (q := 20) (by omega) (by omega) (by omega) hx0 (fun τ1 g3 g4 => ?_)
  have hC1 : Cq ρ τ1 ovS ovD := (g2.mono (fun n hn => Or.inr (Or.inl hn)) (fun _ z => Or.inr z)).trans (g4.mono (fun n hn => Or.inl hn) (fun _ z => Or.inl z))
  have hx1 : PR τ1 18 x := hx0.cq g4 (fun n hn => by unfold inR at hn; unfold inR; omega) (by omega)
  have hyq : ∀ τ, Cq ρ τ ovS ovD → PR τ 19 y := fun τ hc => hy.cq hc (fun n hn => by unfold inR at hn; unfold ovS inR tmR; omega) (by unfold ovD; omega)
  have hG1 : ∀ i, i < 9 → RpR τ1 (189 + i) 0 := fun i hi => (g1.1 i hi).cq g4 (by unfold inR; omega)
  have c18 : (18 : Int32).toNatClampNeg = 18 := by decide
  have c19 : (19 : Int32).toNatClampNeg = 19 := by decide
  rw [c18, c19, hx1.2.2, (hyq τ1 hC1).2.2, hd, nI_pred]
  refine ⟨pk_in 19 _ (by omega), fun a36 ha36 => ⟨pk_in 18 _ (by omega), fun a37 ha37 => ?_⟩⟩
  subst ha36 ha37
  refine lq3_i (I := fun i1 i2 τ => i1 = nI d ∧ ∃ u W G, u ≤ dl x - d ∧ (u = 0 → i2 < nI d) ∧ (u ≠ 0 → i2 = nI (d + u) - 1) ∧ (∀ i, i < 9 → RpR τ (180 + i) (W i)) ∧ (∀ j, d + u ≤ j → W j = 0) ∧ (∀ i, i < 9 → RpR τ (189 + i) (G i)) ∧ (∀ i, i < u → G i = 0) ∧ (∀ i, (if i < u then dvQ y d u W i else G i) = dvQ y d (dl x - d) x i) ∧ dvB y d 60 u W ∧ (dvOK y d u W ↔ dvOK y d (dl x - d) x) ∧ Cq ρ τ ovS ovD) (μ := fun _ i2 _ => (i2 + 1).toNatClampNeg) ?_ _ _ _ ⟨rfl, dl x - d, x, fun _ => 0, Nat.le_refl _, fun h => (deg_lt (by omega) (by omega)).mpr (by omega), fun h => by rw [show d + (dl x - d) = dl x by omega], fun i hi => g3.1 i hi, fun j hj => hx.zero (by omega), hG1, fun _ _ => rfl, fun i => ?_, hB, Iff.rfl, hC1⟩
  rotate_left
  · by_cases e : i < dl x - d
    · rw [if_pos e]
    · rw [if_neg e, dvQ_top (by omega)]
  clear g1 g2 g3 g4 hx0 hx1 hC1 hG1 τ0 τ1 hB
  rintro N i1 i2 τ ⟨rfl, u, W, G, hu, hu0, hu1, hW, hWz, hG, hGz, hGQ, hB, hOK, hC⟩ hN
  have hW9 : ∀ i, 9 ≤ i → W i = 0 := fun i hi => hWz i (by omega)
  unfold wbX5_over_30
  rcases Nat.eq_zero_or_pos u with e0 | e0
  · subst e0
    refine ⟨fun _ => ?_, fun h => absurd (hu0 rfl) h⟩
    have hG9 : ∀ i, 9 ≤ i → dvQ y d (dl x - d) x i = 0 := fun i hi => dvQ_top (by omega)
    refine sp_rmeasure (p := 20) (by omega) hW hW9 (fun τ1 g1 g2 => sp_rmeasure (p := 21) (c := dvQ y d (dl x - d) x) (by omega) (fun i hi => ?_) hG9 (fun τ2 g3 g4 => ?_))
    · have := hGQ i
      rw [if_neg (by omega)] at this
      rw [← this]
      exact (hG i hi).cq g2 (fun z => z)
    have c20 : (20 : Int32).toNatClampNeg = 20 := by decide
    have hC2 : Cq ρ τ2 ovS ovD := (hC.trans (g2.mono (fun _ z => z.elim) (fun _ z => Or.inl z))).trans (g4.mono (fun _ z => z.elim) (fun _ z => Or.inr z))
    rw [c20, g4.2.1 20 (by omega), g1.2.2, deg_nn (dl_le W)]
    have hz : dvOK y d 0 W ↔ dl W = 0 := ⟨fun h => ln_uniq (by omega) (fun i _ _ => h i) (fun h => absurd rfl h), fun h i => dl_zero hW9 (by omega)⟩
    refine ⟨pk_in 20 _ (by omega), fun h => hQ 0 τ2 hC2 (Or.inl ⟨rfl, fun h2 => h (hz.mp (hOK.mpr h2))⟩), fun h => hQ 1 τ2 hC2 (Or.inr ⟨rfl, hOK.mp (hz.mpr (by omega)), g3⟩)⟩
  · obtain ⟨v, rfl⟩ : ∃ v, u = v + 1 := ⟨u - 1, by omega⟩
    have e1 : i2 = nI (d + v) := by rw [hu1 (by omega), ← Nat.add_assoc]; exact nI_pred _
    subst e1
    refine ⟨fun h => absurd h (nI_nlt (by omega) (by omega)), fun _ => ?_⟩
    have hyt := hyq τ hC
    rw [at_eq, show (20 : Int32) = nI 20 from rfl, ia, nI_clamp (by omega)]
    have hWv := hW (d + v) (by omega)
    have hgw : rG τ (9 * 20 + (d + v)) = sg32 (W (d + v)) := hWv.sg
    rw [hgw, sg32_eq0]
    obtain ⟨b1, b2⟩ := hB
    -- going on
    have hnext : ∀ τ' W' G', (W (d + v)).tmod (y d) = 0 → W' = dvS y d W v → (∀ i, i < 9 → RpR τ' (180 + i) (W' i)) → G' = pu G v (dvq y d W v) → (∀ i, i < 9 → RpR τ' (189 + i) (G' i)) → Cq ρ τ' ovS ovD → wpX5_over_204 Q N (nI d) (nI (d + v)) τ' := by
      intro τ' W' G' f0 f1 f2 f3 f4 f5
      subst f1 f3
      unfold wpX5_over_204
      intro a1 ha1
      subst ha1
      refine hN _ _ _ ⟨rfl, v, dvS y d W v, pu G v (dvq y d W v), by omega, fun h => ?_, fun _ => (Int32.sub_eq_add_neg _ _).symm, f2, fun j hj => ?_, f4, fun i hi => ?_, fun i => ?_, (b2 f0).2, ?_, f5⟩ ?_
      · subst h
        show nI (d + 0) + (-1) < nI d
        rw [← Int32.sub_eq_add_neg]
        exact (deg_lt (by omega) (by omega)).mpr (by omega)
      · unfold dvS
        rw [if_neg (by omega)]
        by_cases e : j = d + v
        · rw [if_pos e]
        · rw [if_neg e]
          exact hWz j (by omega)
      · rw [pu_n (by omega)]
        exact hGz i (by omega)
      · have h1 := hGQ i
        rw [← h1]
        by_cases e : i < v
        · rw [if_pos e, if_pos (by omega)]
          show _ = pu _ v _ i
          rw [pu_n (by omega)]
        · rw [if_neg e]
          by_cases e2 : i = v
          · subst e2
            rw [if_pos (by omega), pu_e]
            show _ = pu _ i _ i
            rw [pu_e]
          · rw [pu_n e2, if_neg (by omega)]
      · rw [← hOK]
        exact ⟨fun h => ⟨f0, h⟩, fun h => h.2⟩
      · show (nI (d + v) + (-1) + 1).toNatClampNeg < (nI (d + v) + 1).toNatClampNeg
        rw [m1p1, nI_1, nI_clamp (by omega), nI_clamp (by omega)]
        omega
    refine ⟨pk_in (180 + (d + v)) _ (by omega), fun h1 => ?_, fun h1 => ⟨pk_in (180 + (d + v)) _ (by omega), ?_⟩⟩
    · have hq0 : dvq y d W v = 0 := by
        unfold dvq
        rw [h1, Int.zero_tdiv]
      refine hnext τ W G (by rw [h1, Int.zero_tmod]) ?_ hW ?_ hG hC
      · funext i
        unfold dvS
        rw [hq0]
        by_cases e : v ≤ i ∧ i < d + v
        · rw [if_pos e, Int.zero_mul, Int.sub_zero]
        · rw [if_neg e]
          by_cases e2 : i = d + v
          · rw [if_pos e2, e2, h1]
          · rw [if_neg e2]
      · funext i
        unfold pu
        by_cases e : i = v
        · rw [if_pos e, hq0, e]
          exact hGz v (by omega)
        · rw [if_neg e]
    · rw [at_eq, show (19 : Int32) = nI 19 from rfl, ia, nI_clamp (by omega)]
      have hydr := hyt.1 d (by omega)
      rw [hydr.sg]
      refine ⟨pk_in (171 + d) _ (by omega), fun a21 ha21 => ?_⟩
      subst ha21
      refine sp_rcopy (t := 217) (by omega) (by omega) hWv (fun τ1 g1 g2 => ⟨pk_in 217 _ (by omega), ?_⟩)
      have g3 : RpR (wG τ1 (nI 217) 1) 217 (((W (d + v)).natAbs : Nat) : Int) := g1.wG (by omega) (by omega) (by rw [sg32_pos (by omega)])
      have g4 : Cr τ (wG τ1 (nI 217) 1) (fun z => z = 217) := g2.wG (by omega) rfl _
      rw [at_eq, ia]
      refine sp_rdivide (a := 217) (b := 171 + d) (x := (W (d + v)).natAbs) (y := (y d).natAbs) (by omega) (by omega) (by omega) (by omega) (by omega) g3 (hydr.cr g4 (by omega)) rfl (by omega) (Or.inr ⟨220, rfl, by omega, by omega, by omega, by omega⟩) (fun τ2 f1 f2 f3 => ⟨pk_in 217 _ (by omega), ?_⟩)
      have f4 := f2 220 (by omega) rfl
      have hS : ∀ z, dS (220 : Int32) 217 z → z = 217 ∨ z = 224 ∨ z = 220 := fun z hz => by
        rcases hz with e | e | ⟨e, e2⟩
        · omega
        · omega
        · have := (nI_eq (a := 220) (b := z) (by omega) (by omega)).mp e2
          omega
      have f5 : Cr τ τ2 (fun z => z = 217 ∨ z = 224 ∨ z = 220) := (g4.mono (fun z hz => Or.inl hz)).trans (f3.mono hS)
      have hCq2 : Cq ρ τ2 ovS ovD := hC.trans ((f5.cq _).mono (fun z hz => Or.inr (Or.inr (by unfold tmR; omega))) (fun _ z => z))
      have c217 : (217 : Int32).toNatClampNeg = 217 := by decide
      rw [c217, f1.sz]
      have hz0 : (((W (d + v)).natAbs % (y d).natAbs : Nat) : Int) = 0 ↔ (W (d + v)).tmod (y d) = 0 := by
        rw [tm_iff]
        omega
      rw [hz0]
      refine ⟨fun h2 => ⟨pk_in 220 _ (by omega), ?_⟩, fun h2 => hQ 0 τ2 hCq2 (Or.inl ⟨rfl, fun h3 => h2 (hOK.mpr h3).1⟩)⟩
      obtain ⟨t1, t2⟩ := td_ex h2 h1 hyd
      rw [t2]
      have f6 : RpR (wG τ2 (nI 220) (sg32 ((W (d + v)).tdiv (y d)))) 220 (dvq y d W v) := f4.wG (by omega) (by unfold dvq; omega) rfl
      have f7 : Cr τ (wG τ2 (nI 220) (sg32 ((W (d + v)).tdiv (y d)))) (fun z => z = 217 ∨ z = 224 ∨ z = 220) := f5.wG (by omega) (Or.inr (Or.inr rfl)) _
      have e2 : nI (d + v) - nI d = nI v := by rw [pk_sub (by omega), show d + v - d = v by omega]
      rw [at_eq, e2, show (21 : Int32) = nI 21 from rfl, ia]
      refine sp_rcopy (a := 220) (t := 189 + v) (by omega) (by omega) f6 (fun τ3 f8 f9 => ?_)
      have f10 : Cr τ τ3 (fun z => z = 217 ∨ z = 224 ∨ z = 220 ∨ z = 189 + v) := (f7.mono (fun z hz => by omega)).trans (f9.mono (fun z hz => by omega))
      have hCq3 : Cq ρ τ3 ovS ovD := hC.trans ((f10.cq _).mono (fun z hz => by unfold ovS inR tmR; omega) (fun _ z => z))
      have f11 : RpR τ3 220 (dvq y d W v) := f6.cr f9 (by omega)
      have bq := (b2 h2).1
      generalize hqe : dvq y d W v = qv at *
      have hq60 := b1
      refine lq4_i (I := fun i1 i2 i5 τ' => i1 = nI d ∧ i2 = nI (d + v) ∧ ∃ k, k ≤ d + 1 ∧ i5 = nI k ∧ (∀ i, i < 9 → RpR τ' (180 + i) (W i - (if v ≤ i ∧ i < v + k then qv * y (i - v) else 0))) ∧ RpR τ' 220 qv ∧ (∀ i, i < 9 → RpR τ' (189 + i) (pu G v qv i)) ∧ Cq ρ τ' ovS ovD) (μ := fun _ _ i5 _ => d + 1 - i5.toNatClampNeg) ?_ _ _ _ _ ⟨rfl, rfl, 0, by omega, rfl, fun i hi => ?_, f11, fun i hi => ?_, hCq3⟩
      rotate_left
      · rw [if_neg (by omega), Int.sub_zero]
        exact (hW i hi).cr f10 (by omega)
      · by_cases e : i = v
        · subst e
          rw [pu_e]
          exact f8
        · rw [pu_n e]
          exact (hG i hi).cr f10 (by omega)
      clear f1 f2 f3 f4 f5 f6 f7 f8 f9 f10 f11 hCq2 hCq3 g1 g2 g3 g4 τ1 τ2 τ3
      rintro N145 i1 i2 i5 τ' ⟨rfl, rfl, k, hk, rfl, hL, hq', hG', hC'⟩ hN145
      unfold wbX5_over_145
      refine pk_lt d k (fun h3 => ?_) (fun h3 => ?_) rfl rfl (by omega) (by omega)
      · have : k = d + 1 := by omega
        subst this
        refine hnext τ' (dvS y d W v) _ h2 rfl (fun i hi => ?_) rfl hG' hC'
        have := hL i hi
        unfold dvS
        rw [hqe]
        by_cases e : v ≤ i ∧ i < d + v
        · rw [if_pos e]
          rw [if_pos ⟨e.1, by omega⟩] at this
          exact this
        · rw [if_neg e]
          by_cases e3 : i = d + v
          · rw [if_pos e3]
            rw [if_pos ⟨by omega, by omega⟩] at this
            rw [e3, Nat.add_sub_cancel] at this
            have hex : W (d + v) = qv * y d := by
              have hdv := Int.dvd_of_tmod_eq_zero h2
              have := Int.mul_tdiv_cancel' hdv
              rw [← hqe]
              unfold dvq
              rw [Int.mul_comm]
              exact this.symm
            rw [← hex, Int.sub_self] at this
            rw [e3]
            exact this
          · rw [if_neg e3]
            rw [if_neg (by omega), Int.sub_zero] at this
            exact this
      · have hy' := hyq τ' hC'
        have e3 : nI k + nI (d + v) - nI d = nI (k + v) := by
          rw [nI_add, pk_sub (by omega), show k + (d + v) - d = k + v by omega]
        rw [at_eq, show (19 : Int32) = nI 19 from rfl, ia]
        have hm := bq k
        have hm2 := hq60 (k + v)
        have q1 := p60
        have q2 := p299
        have q3 := p299'
        generalize (2147483648 : Nat) ^ 60 = P60 at *
        generalize (2147483648 : Nat) ^ 298 = P298 at *
        generalize (2147483648 : Nat) ^ 299 = P299 at *
        refine sp_rtimes (t := 219) (a := 220) (b := 171 + k) (by omega) (by omega) (by omega) (by omega) (by omega) hq' (hy'.1 k (by omega)) (by omega) (fun τ4 k1 k2 => ?_)
        rw [at_eq, at_eq, e3, show (20 : Int32) = nI 20 from rfl, ia]
        have hR : RpR τ4 (180 + (k + v)) (W (k + v)) := by
          have := hL (k + v) (by omega)
          rw [if_neg (by omega), Int.sub_zero] at this
          exact this.cr k2 (by omega)
        refine sp_rsum (e := -1) (t := 180 + (k + v)) (a := 180 + (k + v)) (b := 219) (by omega) (by omega) (by omega) hR k1 (Or.inr ⟨rfl, rfl⟩) (by omega) (fun τ5 k3 k4 a12 ha12 => ?_)
        subst ha12
        have k5 : Cr τ' τ5 (fun z => z = 219 ∨ z = 180 + (k + v)) := (k2.mono (fun z hz => Or.inl hz)).trans (k4.mono (fun z hz => Or.inr hz))
        refine hN145 _ _ _ _ ⟨rfl, rfl, k + 1, by omega, nI_1 k, fun i hi => ?_, hq'.cr k5 (by omega), fun i hi => (hG' i hi).cr k5 (by omega), hC'.trans ((k5.cq _).mono (fun z hz => by unfold ovS inR tmR; omega) (fun _ z => z))⟩ ?_
        · by_cases e : i = k + v
          · subst e
            rw [if_pos ⟨by omega, by omega⟩, Nat.add_sub_cancel, show W (k + v) - qv * y k = W (k + v) + -1 * (qv * y k) by omega]
            exact k3
          · have := (hL i hi).cr k5 (by omega)
            by_cases e4 : v ≤ i ∧ i < v + k
            · rw [if_pos ⟨by omega, by omega⟩]
              rw [if_pos e4] at this
              exact this
            · rw [if_neg (by omega)]
              rw [if_neg e4] at this
              exact this
        · show d + 1 - (nI k + 1).toNatClampNeg < d + 1 - (nI k).toNatClampNeg
          rw [nI_1, nI_clamp (by omega), nI_clamp (by omega)]
          omega
