/-! PURE: the reference's signAt, changes, changesFar, below, place -/
theorem put_of {y : Int64} (h : y.toInt.natAbs ≤ 2147483648) : (y.toInt = (y.toInt.natAbs : Int) ∧ y = lN y.toInt.natAbs) ∨ (y.toInt = -(y.toInt.natAbs : Int) ∧ 0 < y.toInt.natAbs ∧ y = -(lN y.toInt.natAbs)) := by
  generalize hv : y.toInt.natAbs = v at *
  have h1 : (lN v).toInt = (v : Int) := pk_lT (by omega)
  rcases Int.lt_or_le y.toInt 0 with e | e
  · refine Or.inr ⟨by omega, by omega, ?_⟩
    apply Int64.toInt_inj.mp
    rw [Int64.toInt_neg, h1, Int.bmod_eq_of_le (by omega) (by omega)]
    omega
  · refine Or.inl ⟨by omega, ?_⟩
    apply Int64.toInt_inj.mp
    rw [h1]
    omega
theorem cp300 {x k : Nat} (h : x < 2147483648 ^ k) (hk : k ≤ 299) : x < 268435456 ^ 430 := p299l (lt_cap h hk)
theorem sp_rsignAt {p : Nat} {y2 y3 : Int64} {c : Row} {ρ : RS} {Q : Int32 → RS → Prop} (hp : p < 24) (h : PR ρ p c) (hb : ∀ i, (c i).natAbs < 2147483648 ^ 100) (ha2 : y2.toInt.natAbs ≤ 2147483648) (ha3 : y3.toInt.natAbs ≤ 2147483648)
    (hQ : ∀ ρ', Cq ρ ρ' tmR (fun _ => False) → Q (sg32 (hvo c y2.toInt y3.toInt (dl c) 0 1)) ρ') : wpX5_signAt (nI p) y2 y3 ρ Q := by
  have hdc := dl_le c
  show wpX5_signAt_0 (nI p) y2 y3 Q ρ
  unfold wpX5_signAt_0
  have hT : ∀ {τ τ' : RS} {n : Nat}, Cr τ τ' (fun z => z = n) → 216 ≤ n → Cq τ τ' tmR (fun _ => False) := fun h hn => (h.cq _).mono (fun w hw => by unfold tmR; omega) (fun _ z => z)
  have hst : ∀ {τ : RS}, Cq ρ τ tmR (fun _ => False) → PR τ p c := fun hC => h.cq hC (fun n hn => by unfold inR at hn; unfold tmR; omega) (fun z => z)
  refine sp_rzero (n := 222) (by omega) (fun τ1 f1 f2 => sp_rput (n := 223) (v := 1) (g := 1) (by omega) (by omega) (Or.inl ⟨rfl, rfl⟩) (fun τ2 f3 f4 => ⟨pk_in p _ hp, fun a22 ha22 => ?_⟩))
  have hC2 := (hT f2 (by omega)).trans (hT f4 (by omega))
  rw [nI_clamp (by omega), (hst hC2).2.2] at ha22
  refine lp_dnR (I := fun k τ => ∃ o t, RpR τ 222 o ∧ RpR τ 223 t ∧ o.natAbs < 2147483648 ^ (100 + 6 * (9 - k)) ∧ t.natAbs < 2147483648 ^ (1 + 2 * (9 - k)) ∧ hvo c y2.toInt y3.toInt k o t = hvo c y2.toInt y3.toInt (dl c) 0 1 ∧ Cq ρ τ tmR (fun _ => False)) (dl c) (by omega) ?_ τ2 ⟨0, 1, f1.cr f4 (by omega), f3, Nat.pow_pos (by omega), Nat.one_lt_pow (by omega) (by omega), rfl, hC2⟩ ha22
  rintro N k τ hk ⟨o, t, ho, htt, hbo, hbt, he, hC⟩ hN
  unfold wbX5_signAt_23
  rw [dg_lt0 (by omega)]
  refine ⟨fun hk0 => ⟨pk_in 222 _ (by omega), ?_⟩, fun hk0 => ?_⟩
  · subst hk0
    have e222 : (222 : Int32).toNatClampNeg = 222 := by decide
    rw [e222, ho.sg]
    have : o = hvo c y2.toInt y3.toInt (dl c) 0 1 := he
    rw [this]
    exact hQ τ hC
  · obtain ⟨u, rfl⟩ : ∃ u, k = u + 1 := ⟨k - 1, by omega⟩
    rw [nI_pred]
    have q1 := bd_t hbo ha2
    have q2 := bd_t hbt ha3
    have q3 := bd_mul (hb u) hbt
    have q4 := bd_add (k := 100 + 6 * (9 - (u + 1)) + 3) (lt_cap q1 (by omega)) (lt_cap q3 (by omega))
    refine sp_rput (n := 221) (v := y2.toInt.natAbs) (g := y2.toInt) (by omega) (by omega) (put_of ha2) (fun τ3 k1 k2 => ?_)
    refine sp_rtimes (t := 219) (a := 222) (b := 221) (by omega) (by omega) (by omega) (by omega) (by omega) (ho.cr k2 (by omega)) k1 (cp300 q1 (by omega)) (fun τ4 k3 k4 => ?_)
    rw [at_eq, ia]
    have hC4 := (hC.trans (hT k2 (by omega))).trans (hT k4 (by omega))
    refine sp_rtimes (t := 220) (a := 9 * p + u) (b := 223) (by omega) (by omega) (by omega) (by omega) (by omega) ((hst hC4).1 u (by omega)) ((htt.cr k2 (by omega)).cr k4 (by omega)) (cp300 q3 (by omega)) (fun τ5 k5 k6 => ?_)
    refine sp_rsum (e := 1) (t := 222) (a := 219) (b := 220) (by omega) (by omega) (by omega) (k3.cr k6 (by omega)) k5 (Or.inl ⟨rfl, rfl⟩) (by rw [Int.one_mul]; exact cp300 q4 (by omega)) (fun τ6 k7 k8 => ?_)
    rw [Int.one_mul] at k7
    refine sp_rput (n := 221) (v := y3.toInt.natAbs) (g := y3.toInt) (by omega) (by omega) (put_of ha3) (fun τ7 k9 k10 => ?_)
    refine sp_rtimes (t := 219) (a := 223) (b := 221) (by omega) (by omega) (by omega) (by omega) (by omega) (((((htt.cr k2 (by omega)).cr k4 (by omega)).cr k6 (by omega)).cr k8 (by omega)).cr k10 (by omega)) k9 (cp300 q2 (by omega)) (fun τ8 k11 k12 => ?_)
    refine sp_rcopy (a := 219) (t := 223) (by omega) (by omega) k11 (fun τ9 k13 k14 a17 ha17 => ?_)
    subst ha17
    exact hN u τ9 rfl ⟨_, _, ((k7.cr k10 (by omega)).cr k12 (by omega)).cr k14 (by omega), k13, lt_cap q4 (by omega), lt_cap q2 (by omega), he, ((((hC4.trans (hT k6 (by omega))).trans (hT k8 (by omega))).trans (hT k10 (by omega))).trans (hT k12 (by omega))).trans (hT k14 (by omega))⟩
theorem sst_s (v : Nat → Int) (k : Nat) : sst v (k + 1) = (if v k * (sst v k).2 < 0 then (sst v k).1 + 1 else (sst v k).1, if v k = 0 then (sst v k).2 else v k) := rfl
/-- two signs, and the product -/
theorem sg_cmp (a b : Int) : a * b < 0 ↔ (sg32 a ≠ 0 ∧ sg32 b ≠ 0 ∧ sg32 a ≠ sg32 b) := by
  rcases sg32_val a with ⟨h1, h2⟩ | ⟨h1, h2⟩ | ⟨h1, h2⟩ <;> rcases sg32_val b with ⟨h3, h4⟩ | ⟨h3, h4⟩ | ⟨h3, h4⟩ <;> rw [h2, h4]
  · have := Int.mul_pos_of_neg_of_neg h1 h3
    exact ⟨fun h => absurd h (by omega), fun h => absurd rfl h.2.2⟩
  · rw [h3, Int.mul_zero]
    exact ⟨fun h => absurd h (by omega), fun h => absurd rfl h.2.1⟩
  · exact ⟨fun _ => by decide, fun _ => Int.mul_neg_of_neg_of_pos h1 h3⟩
  · rw [h1, Int.zero_mul]
    exact ⟨fun h => absurd h (by omega), fun h => absurd rfl h.1⟩
  · rw [h1, Int.zero_mul]
    exact ⟨fun h => absurd h (by omega), fun h => absurd rfl h.1⟩
  · rw [h1, Int.zero_mul]
    exact ⟨fun h => absurd h (by omega), fun h => absurd rfl h.1⟩
  · exact ⟨fun _ => by decide, fun _ => Int.mul_neg_of_pos_of_neg h1 h3⟩
  · rw [h3, Int.mul_zero]
    exact ⟨fun h => absurd h (by omega), fun h => absurd rfl h.2.1⟩
  · have := Int.mul_pos h1 h3
    exact ⟨fun h => absurd h (by omega), fun h => absurd rfl h.2.2⟩
theorem nI_p0 (n : Nat) : nI n + (0 : Int32) = nI n := Int32.add_zero _
/-- the chain lies in the reference -/
def RC (ρ : RS) (l : Nat) (M : Nat → Row) : Prop := l ≤ 8 ∧ rK ρ 4 = nI (l + 1) ∧ (∀ i, i ≤ l → PR ρ (8 + i) (M i)) ∧ (∀ i, i ≤ l → ∀ m, (M i m).natAbs < 2147483648 ^ 100) ∧ ∀ i, i ≤ l → dl (M i) ≠ 0
theorem RC.t {ρ ρ' : RS} {l : Nat} {M : Nat → Row} (h : RC ρ l M) (hc : Cq ρ ρ' tmR (fun _ => False)) : RC ρ' l M := ⟨h.1, by rw [hc.2.2.2]; exact h.2.1, fun i hi => (h.2.2.1 i hi).cq hc (fun n hn => by unfold inR at hn; unfold tmR; have := h.1; omega) (fun z => z), h.2.2.2⟩
theorem sp_rchanges {y1 : Int64} {l : Nat} {M : Nat → Row} {ρ : RS} {Q : Int32 → RS → Prop} (hR : RC ρ l M) (hy : y1.toInt.natAbs ≤ 2147483648)
    (hQ : ∀ ρ', Cq ρ ρ' tmR (fun _ => False) → Q (nI (cAt M l y1.toInt)) ρ') : wpX5_changes y1 ρ Q := by
  show ∃ n, lq4 (wbX5_changes_8 y1 Q) n (0 : Int32) (0 : Int32) (0 : Int32) ρ
  refine lq4_i (I := fun i3 i4 i5 τ => ∃ k, k ≤ l + 1 ∧ i5 = nI k ∧ i4 = nI (sst (vAt M y1.toInt) k).1 ∧ i3 = sg32 (sst (vAt M y1.toInt) k).2 ∧ Cq ρ τ tmR (fun _ => False)) (μ := fun _ _ i5 _ => l + 1 - i5.toNatClampNeg) ?_ _ _ _ _ ⟨0, Nat.zero_le _, rfl, rfl, rfl, Cq.refl _ _ _⟩
  rintro N i3 i4 i5 τ ⟨k, hk, rfl, rfl, rfl, hC⟩ hN
  have hRt := hR.t hC
  have hl8 := hR.1
  unfold wbX5_changes_8
  rw [hRt.2.1]
  refine pk_le (l + 1) k (fun h1 => ?_) (fun h1 => ?_) rfl rfl (by omega) (by omega)
  · have : k = l + 1 := by omega
    subst this
    exact hQ τ hC
  · rw [i32_8 k (by omega)]
    refine sp_rsignAt (by omega) (hRt.2.2.1 k (by omega)) (hRt.2.2.2.1 k (by omega)) hy (by decide) (fun τ1 f1 => ?_)
    have hv : hvo (M k) y1.toInt (1 : Int64).toInt (dl (M k)) 0 1 = vAt M y1.toInt k := rfl
    rw [hv]
    have hC1 := hC.trans f1
    generalize hvd : vAt M y1.toInt = v at *
    have hfin : ∀ a4, a4 = nI (sst v (k + 1)).1 → wpX5_changes_55 y1 Q N (sg32 (sst v k).2) a4 (nI k) (sg32 (v k)) τ1 := by
      intro a4 ha4
      subst ha4
      unfold wpX5_changes_55 wpX5_changes_67
      rw [sg32_eq0]
      have hm : ∀ a1 : Int32, a1 = nI k + 1 → l + 1 - a1.toNatClampNeg < l + 1 - (nI k).toNatClampNeg := by
        intro a1 ha1
        subst ha1
        rw [nI_1, nI_clamp (by omega), nI_clamp (by omega)]
        omega
      refine ⟨fun hz a1 ha1 => hN _ _ _ _ ⟨k + 1, by omega, by rw [ha1, nI_1], rfl, ?_, hC1⟩ (hm a1 ha1), fun hz a1 ha1 => hN _ _ _ _ ⟨k + 1, by omega, by rw [ha1, nI_1], rfl, ?_, hC1⟩ (hm a1 ha1)⟩
      · rw [sst_s]
        show _ = sg32 (if v k = 0 then (sst v k).2 else v k)
        rw [if_neg hz]
      · rw [sst_s]
        show _ = sg32 (if v k = 0 then (sst v k).2 else v k)
        rw [if_pos hz]
    have hs0 : ¬ v k * (sst v k).2 < 0 → nI (sst v k).1 = nI (sst v (k + 1)).1 := fun h => by
      rw [sst_s]
      show _ = nI (if v k * (sst v k).2 < 0 then (sst v k).1 + 1 else (sst v k).1)
      rw [if_neg h]
    have hs1 : v k * (sst v k).2 < 0 → nI (sst v k).1 + 1 = nI (sst v (k + 1)).1 := fun h => by
      rw [sst_s]
      show _ = nI (if v k * (sst v k).2 < 0 then (sst v k).1 + 1 else (sst v k).1)
      rw [if_pos h, nI_1]
    have hcm := sg_cmp (v k) (sst v k).2
    refine ⟨fun h2 a4 ha4 => hfin a4 ?_, fun h2 => ⟨fun h3 a5 ha5 => hfin a5 ?_, fun h3 => ⟨fun h4 a6 ha6 => hfin a6 ?_, fun h4 a7 ha7 => hfin a7 ?_⟩⟩⟩
    · rw [ha4, nI_p0, hs0 (fun h => (hcm.mp h).1 h2)]
    · rw [ha5, nI_p0, hs0 (fun h => (hcm.mp h).2.1 h3)]
    · rw [ha6, nI_p0, hs0 (fun h => (hcm.mp h).2.2 h4)]
    · rw [ha7, hs1 (hcm.mpr ⟨h2, h3, h4⟩)]
theorem sp_rchangesFar {x1 : Int32} {l : Nat} {M : Nat → Row} {ρ : RS} {Q : Int32 → RS → Prop} (hR : RC ρ l M) (hQ : Q (nI (cFar M l (decide (x1 = 0)))) ρ) : wpX5_changesFar x1 ρ Q := by
  show ∃ n, lq4 (wbX5_changesFar_7 x1 Q) n (0 : Int32) (0 : Int32) (0 : Int32) ρ
  have hl8 := hR.1
  unfold cFar at hQ
  generalize hvd : vFar M (decide (x1 = 0)) = v at *
  have hvn : ∀ k, k ≤ l → v k ≠ 0 := fun k hk => by
    rw [← hvd]
    unfold vFar
    have := lc_ne (hR.2.2.2.2 k hk)
    split <;> omega
  have hlast : ∀ k, k ≤ l → (sst v (k + 1)).2 = v k := fun k hk => by
    rw [sst_s]
    show (if v k = 0 then _ else _) = _
    rw [if_neg (hvn k hk)]
  refine lq4_i (I := fun i2 i3 i4 τ => τ = ρ ∧ ∃ k, k ≤ l + 1 ∧ i4 = nI k ∧ i3 = nI (sst v k).1 ∧ i2 = sg32 (sst v k).2) (μ := fun _ _ i4 _ => l + 1 - i4.toNatClampNeg) ?_ _ _ _ _ ⟨rfl, 0, Nat.zero_le _, rfl, rfl, rfl⟩
  rintro N i2 i3 i4 τ ⟨rfl, k, hk, rfl, rfl, rfl⟩ hN
  unfold wbX5_changesFar_7
  rw [hR.2.1]
  refine pk_le (l + 1) k (fun h1 => ?_) (fun h1 a5 ha5 => ?_) rfl rfl (by omega) (by omega)
  · have : k = l + 1 := by omega
    subst this
    exact hQ
  · rw [i32_8 k (by omega)] at ha5
    subst ha5
    have hP := hR.2.2.1 k (by omega)
    have hd0 := hR.2.2.2.2 k (by omega)
    obtain ⟨d, hd⟩ : ∃ d, dl (M k) = d + 1 := ⟨dl (M k) - 1, by omega⟩
    have hd9 := dl_le (M k)
    rw [nI_clamp (by omega), hP.2.2, hd, nI_pred, at_eq, ia, nI_clamp (by omega), (hP.1 d (by omega)).sg, ← lc_s hd]
    refine ⟨pk_in (8 + k) _ (by omega), pk_in (9 * (8 + k) + d) _ (by omega), fun a8 ha8 => ?_⟩
    subst ha8
    have h69 : ∀ g, g = sg32 (v k) → wpX5_changesFar_69 x1 Q N (sg32 (sst v k).2) (nI (sst v k).1) (nI k) g τ := by
      intro g hg
      subst hg
      unfold wpX5_changesFar_69
      have hcm := sg_cmp (v k) (sst v k).2
      have hv0 : sg32 (v k) ≠ 0 := fun e => hvn k (by omega) (sg32_eq0.mp e)
      have hfin : ∀ a4, a4 = nI (sst v (k + 1)).1 → wpX5_changesFar_87 x1 Q N a4 (nI k) (sg32 (v k)) τ := by
        intro a4 ha4
        subst ha4
        unfold wpX5_changesFar_87
        intro a1 ha1
        subst ha1
        refine hN _ _ _ _ ⟨rfl, k + 1, by omega, nI_1 k, rfl, by rw [hlast k (by omega)]⟩ ?_
        show l + 1 - (nI k + 1).toNatClampNeg < l + 1 - (nI k).toNatClampNeg
        rw [nI_1, nI_clamp (by omega), nI_clamp (by omega)]
        omega
      have hs0 : ¬ v k * (sst v k).2 < 0 → nI (sst v k).1 = nI (sst v (k + 1)).1 := fun h => by
        rw [sst_s]
        show _ = nI (if v k * (sst v k).2 < 0 then (sst v k).1 + 1 else (sst v k).1)
        rw [if_neg h]
      have hs1 : v k * (sst v k).2 < 0 → nI (sst v k).1 + 1 = nI (sst v (k + 1)).1 := fun h => by
        rw [sst_s]
        show _ = nI (if v k * (sst v k).2 < 0 then (sst v k).1 + 1 else (sst v k).1)
        rw [if_pos h, nI_1]
      refine ⟨fun h3 a5 ha5 => hfin a5 ?_, fun h3 => ⟨fun h4 a6 ha6 => hfin a6 ?_, fun h4 a7 ha7 => hfin a7 ?_⟩⟩
      · rw [ha5, nI_p0, hs0 (fun h => (hcm.mp h).2.1 h3)]
      · rw [ha6, nI_p0, hs0 (fun h => (hcm.mp h).2.2 h4)]
      · rw [ha7, hs1 (hcm.mpr ⟨hv0, h3, h4⟩)]
    have hvk : v k = if x1 = 0 ∧ d % 2 = 1 then -(lc (M k)) else lc (M k) := by
      rw [← hvd]
      unfold vFar
      rw [hd]
      by_cases e1 : x1 = 0
      · by_cases e2 : d % 2 = 1
        · rw [if_pos ⟨decide_eq_true e1, by omega⟩, if_pos ⟨e1, e2⟩]
        · rw [if_neg (fun h => e2 (by omega)), if_neg (fun h => e2 h.2)]
      · rw [if_neg (fun h => e1 (of_decide_eq_true h.1)), if_neg (fun h => e1 h.1)]
    unfold wpX5_changesFar_65
    rw [hP.2.2, hd, nI_pred, rem_mod d (by omega), show (1 : Int32) = nI 1 from rfl, nI_eq (by omega) (by omega)]
    refine ⟨fun h2 => h69 _ ?_, fun h2 => ⟨pk_in (8 + k) _ (by omega), fun h3 => h69 _ ?_, fun h3 a9 ha9 => h69 _ ?_⟩⟩
    · rw [hvk, if_neg (fun h => h2 h.1)]
    · rw [hvk, if_neg (fun h => h3 h.2)]
    · rw [hvk, if_pos ⟨h2, h3⟩, ha9, sg32_neg]
theorem sp_rbelow {y1 : Int64} {l : Nat} {M : Nat → Row} {ρ : RS} {Q : Int32 → RS → Prop} (hR : RC ρ l M) (hy : y1.toInt.natAbs ≤ 2147483648)
    (hQ : ∀ ρ', Cq ρ ρ' tmR (fun _ => False) → Q (rbl M l y1.toInt) ρ') : wpX5_below y1 ρ Q := by
  show wpX5_below_0 y1 Q ρ
  unfold wpX5_below_0
  refine sp_rchangesFar hR (sp_rchanges hR hy (fun τ1 f1 => ?_))
  have hR1 := hR.t f1
  refine sp_rsignAt (p := 8) (by omega) (hR1.2.2.1 0 (by omega)) (hR1.2.2.2.1 0 (by omega)) hy (by decide) (fun τ2 f2 => ?_)
  have hv : hvo (M 0) y1.toInt (1 : Int64).toInt (dl (M 0)) 0 1 = vAt M y1.toInt 0 := rfl
  have h2 := hQ τ2 (f1.trans f2)
  rw [hv, sg32_eq0, show decide ((0 : Int32) = 0) = true from rfl]
  unfold rbl at h2
  refine ⟨fun hz => ?_, fun hz => ?_⟩
  · rw [if_neg hz] at h2
    rw [Int32.sub_zero]
    exact h2
  · rw [if_pos hz] at h2
    exact h2
theorem i64_mid2 {a b : Int64} (h1 : -(2 ^ 61 : Int) < a.toInt) (h2 : a.toInt < 2 ^ 61) (h3 : -(2 ^ 61 : Int) < b.toInt) (h4 : b.toInt < 2 ^ 61) : (jlshr (a + b) (1 : Int32)).toInt = (a.toInt + b.toInt) / 2 := by
  have e1 : (a + b).toInt = a.toInt + b.toInt := by rw [Int64.toInt_add, Int.bmod_eq_of_le] <;> omega
  unfold jlshr
  have e2 : ((1 : Int32).toInt64 &&& 63 : Int64) = 1 := by decide
  rw [e2, ← e1]
  show ((a + b) >>> (1 : Int64)).toBitVec.toInt = (a + b).toBitVec.toInt / 2
  rw [Int64.toBitVec_shiftRight, show ((1 : Int64).toBitVec.smod 64) = 1#64 by decide, BitVec.sshiftRight_eq', show (1#64).toNat = 1 by decide, BitVec.toInt_sshiftRight, Int.shiftRight_eq_div_pow]
  rfl
/-- what place answers, out of a chain -/
def plc (M : Nat → Row) (l : Nat) (k : Int32) : Int := if ¬ k < nI (cFar M l true) - nI (cFar M l false) then -9223372036854775808 else flr M l k
theorem sp_rplace {x1 k : Int32} {l : Nat} {M : Nat → Row} {ρ : RS} {Q : Int64 → RS → Prop} (hR : RC ρ l M) (hQ : ∀ ρ' (r : Int64), r.toInt = plc M l k → Cq ρ ρ' tmR (fun _ => False) → Q r ρ') :
    wpX5_changesFar (0 : Int32) ρ (fun (r8 : Int32) (σ9 : RS) =>
              wpX5_changesFar (1 : Int32) σ9 (fun (r10 : Int32) (σ11 : RS) =>
                (k < (r8 - r10) →
                  wpX5_below (-2147483647 : Int64) σ11 (fun (r12 : Int32) (σ13 : RS) =>
                    (k < r12 →
                      wpX5_place_78 x1 k Q (-9223372036854775808 : Int64) σ13) ∧
                    (¬ k < r12 →
                      wpX5_below (2147483648 : Int64) σ13 (fun (r14 : Int32) (σ15 : RS) =>
                        (k < r14 →
                          ∃ n, lq3 (wbX5_place_80 x1 k Q) n (-2147483647 : Int64) (2147483648 : Int64) σ15) ∧
                        (¬ k < r14 →
                          wpX5_place_78 x1 k Q (-9223372036854775808 : Int64) σ15))))) ∧
                (¬ k < (r8 - r10) →
                  Q (-9223372036854775808 : Int64) σ11))) := by
  have e0 : decide ((0 : Int32) = 0) = true := rfl
  have e1 : decide ((1 : Int32) = 0) = false := rfl
  have en : (-9223372036854775808 : Int64).toInt = -9223372036854775808 := by decide
  refine sp_rchangesFar hR (sp_rchangesFar hR ?_)
  rw [e0, e1]
  refine ⟨fun h1 => ?_, fun h1 => hQ ρ _ (by unfold plc; rw [if_pos h1, en]) (Cq.refl _ _ _)⟩
  have hpl : plc M l k = flr M l k := if_neg (fun h => h h1)
  rw [hpl] at hQ
  have em : (-2147483647 : Int64).toInt = -2147483647 := by decide
  have eM : (2147483648 : Int64).toInt = 2147483648 := by decide
  refine sp_rbelow hR (by rw [em]; decide) (fun τ1 f1 => ?_)
  rw [em]
  unfold wpX5_place_78
  refine ⟨fun h2 => hQ τ1 _ (by unfold flr; rw [if_pos (Or.inl h2), en]) f1, fun h2 => ?_⟩
  refine sp_rbelow (hR.t f1) (by rw [eM]; decide) (fun τ2 f2 => ?_)
  rw [eM]
  have f12 := f1.trans f2
  refine ⟨fun h3 => ?_, fun h3 => hQ τ2 _ (by unfold flr; rw [if_pos (Or.inr h3), en]) f12⟩
  have hfl : flr M l k = bis (fun m => decide (k < rbl M l m)) 64 (-2147483647) 2147483648 := if_neg (fun h => h.elim h2 (fun h => h h3))
  refine lq3_i (I := fun l5 l7 τ => ∃ t, t ≤ 64 ∧ -2147483647 ≤ l5.toInt ∧ l5.toInt < l7.toInt ∧ l7.toInt ≤ 2147483648 ∧ l7.toInt - l5.toInt ≤ 2 ^ (64 - t) ∧ bis (fun m => decide (k < rbl M l m)) (64 - t) l5.toInt l7.toInt = flr M l k ∧ Cq ρ τ tmR (fun _ => False)) (μ := fun l5 l7 _ => (l7.toInt - l5.toInt).toNat) ?_ _ _ _ ⟨0, by omega, by decide, by decide, by decide, by decide, by rw [em, eM]; exact hfl.symm, f12⟩
  rintro N l5 l7 τ ⟨t, ht, hl5, hlo, hl7, hw, hb, hC⟩ hN
  unfold wbX5_place_80 wpX5_place_120
  have es := i64_sub (a := l7) (b := l5) (by omega) (by omega) (by omega) (by omega)
  rw [lg_le, Int64.le_iff_toInt_le, es, show (1 : Int64).toInt = 1 by decide]
  refine ⟨fun h4 => ?_, fun h4 b1 hb1 => ?_⟩
  · rw [bis_done h4] at hb
    exact hQ τ l5 hb hC
  · have ht64 : t < 64 := by
      rcases Nat.lt_or_ge t 64 with e | e
      · exact e
      · rw [show 64 - t = 0 by omega] at hw
        omega
    have e2 := i64_mid2 (a := l5) (b := l7) (by omega) (by omega) (by omega) (by omega)
    rw [← hb1] at e2
    obtain ⟨n, hn⟩ : ∃ n, 64 - t = n + 1 := ⟨63 - t, by omega⟩
    rw [hn] at hb hw
    have hw2 : (2 : Int) ^ (n + 1) = 2 ^ n * 2 := Int.pow_succ _ _
    have hb' : (if l7.toInt - l5.toInt ≤ 1 then l5.toInt else if decide (k < rbl M l ((l5.toInt + l7.toInt) / 2)) = true then bis (fun m => decide (k < rbl M l m)) n l5.toInt ((l5.toInt + l7.toInt) / 2) else bis (fun m => decide (k < rbl M l m)) n ((l5.toInt + l7.toInt) / 2) l7.toInt) = flr M l k := hb
    rw [if_neg h4, ← e2] at hb'
    have e3 : (2 : Int) ^ n * 2 = 2 * 2 ^ n := Int.mul_comm _ _
    rw [hw2] at hw
    have hP0 : (0 : Int) < 2 ^ n := Int.pow_pos (by omega)
    refine sp_rbelow (hR.t hC) (by omega) (fun τ4 f4 => ⟨fun h5 => ?_, fun h5 => ?_⟩)
    · rw [if_pos (decide_eq_true h5)] at hb'
      refine hN _ _ _ ⟨t + 1, by omega, by omega, by omega, by omega, ?_, ?_, hC.trans f4⟩ ?_
      · rw [show 64 - (t + 1) = n by omega]
        generalize (2 : Int) ^ n = P at *
        omega
      · rw [show 64 - (t + 1) = n by omega]
        exact hb'
      · show (b1.toInt - l5.toInt).toNat < (l7.toInt - l5.toInt).toNat
        omega
    · rw [if_neg (fun h => h5 (of_decide_eq_true h))] at hb'
      refine hN _ _ _ ⟨t + 1, by omega, by omega, by omega, by omega, ?_, ?_, hC.trans f4⟩ ?_
      · rw [show 64 - (t + 1) = n by omega]
        generalize (2 : Int) ^ n = P at *
        omega
      · rw [show 64 - (t + 1) = n by omega]
        exact hb'
      · show (l7.toInt - b1.toInt).toNat < (l7.toInt - l5.toInt).toNat
        omega
