/-! PURE: changes, rootsBelow, floorOfRoot -/
/-- how often the sign changes, and the last value that is not 0 -/
def sst (v : Nat → Int) : Nat → Nat × Int
  | 0 => (0, 0)
  | k + 1 => (if v k * (sst v k).2 < 0 then (sst v k).1 + 1 else (sst v k).1, if v k = 0 then (sst v k).2 else v k)
theorem sst_le (v : Nat → Int) (k : Nat) : (sst v k).1 ≤ k := by
  induction k with
  | zero => exact Nat.le_refl _
  | succ k ih =>
    have h : (sst v (k + 1)).1 = if v k * (sst v k).2 < 0 then (sst v k).1 + 1 else (sst v k).1 := rfl
    rw [h]
    split
    · exact Nat.succ_le_succ ih
    · exact Nat.le_succ_of_le ih
theorem sg32_nn (z : Int) : 0 ≤ sg32 z ↔ ¬ z < 0 := by
  unfold sg32
  by_cases h : z < 0
  · rw [if_pos h]
    exact ⟨fun h2 => absurd h2 (by decide), fun h2 => absurd h h2⟩
  · rw [if_neg h]
    refine ⟨fun _ => h, fun _ => ?_⟩
    split <;> decide
def vAt (L : Nat → Row) (p : Int) (i : Nat) : Int := hvo (L i) p 1 (dl (L i)) 0 1
def vFar (L : Nat → Row) (neg : Bool) (i : Nat) : Int := if neg = true ∧ dl (L i) % 2 = 0 then -(lc (L i)) else lc (L i)
def cAt (L : Nat → Row) (l : Nat) (p : Int) : Nat := (sst (vAt L p) (l + 1)).1
def cFar (L : Nat → Row) (l : Nat) (neg : Bool) : Nat := (sst (vFar L neg) (l + 1)).1
def tC' (w : Nat) : Prop := 320 ≤ w
theorem link_bd {σ : CS} {i : Nat} {c : Row} (hi : i ≤ 9) (h : Pl σ (10 + i) c) (m : Nat) : (c m).natAbs < 2147483648 ^ 100 := by
  rcases Nat.lt_or_ge m (tlen (10 + i)) with h2 | h2
  · have h3 := (h.1 m h2).bd
    rw [cap_t (10 + i) (by omega) m (by have := tlen_le (10 + i); omega), capL hi] at h3
    exact h3
  · rw [h.2.1 m h2]
    exact Nat.pow_pos (by omega)
theorem sp_changes0 {y1 : Int64} {x2 : Int32} {l : Nat} {L : Nat → Row} {v : Nat → Int} {σ : CS} {Q : Int32 → CS → Prop} (hl : l ≤ 9) (hK : cK σ 0 = nI l) (hP : ∀ i, i ≤ l → Pl σ (10 + i) (L i)) (hy : y1.toInt.natAbs ≤ 2147483648)
    (hv : ∀ i, v i = if x2 = 0 then vAt L y1.toInt i else vFar L (decide (y1.toInt < 0)) i)
    (hQ : ∀ σ', Cg σ σ' tC' (fun _ => False) → Q (nI (sst v (l + 1)).1) σ') : wpX1_changes y1 x2 σ Q := by
  show ∃ n, lq4 (wbX1_changes_9 y1 x2 Q) n (0 : Int32) (0 : Int32) (0 : Int32) σ
  refine lq4_i (I := fun i4 i5 i6 τ => ∃ k, k ≤ l + 1 ∧ i6 = nI k ∧ i4 = nI (sst v k).1 ∧ i5 = sg32 (sst v k).2 ∧ Cg σ τ tC' (fun _ => False)) (μ := fun _ _ i6 _ => l + 1 - i6.toNatClampNeg) ?_ _ _ _ _ ⟨0, Nat.zero_le _, rfl, rfl, rfl, Cg.refl _ _ _⟩
  rintro N i4 i5 i6 τ ⟨k, hk, rfl, rfl, rfl, hC⟩ hN
  have hst : ∀ {τ : CS} {i : Nat}, i ≤ l → Cg σ τ tC' (fun _ => False) → Pl τ (10 + i) (L i) := fun hi hC => (hP _ hi).cg hC (fun w hw hz => absurd hw.2 (by unfold tC' at hz; omega)) (fun z => z)
  unfold wbX1_changes_9
  rw [hC.2.2 0, hK, nI_clamp (by omega)]
  refine pk_lt l k (fun h1 => ?_) (fun h1 => ?_) rfl rfl (by omega) (by omega)
  · have : k = l + 1 := by omega
    subst this
    exact hQ τ hC
  · -- the step
    have hstep : ∀ τ2, Cg σ τ2 tC' (fun _ => False) → wpX1_changes_54 y1 x2 Q N (nI (sst v k).1) (sg32 (sst v k).2) (nI k) (sg32 (v k)) τ2 := by
      intro τ2 hC2
      have hmeas : ∀ a : Int32, a = nI k + 1 → l + 1 - a.toNatClampNeg < l + 1 - (nI k).toNatClampNeg := by
        intro a ha
        subst ha
        rw [nI_1, nI_clamp (by omega), nI_clamp (by omega)]
        omega
      have h65 : ∀ n : Nat, n = (sst v (k + 1)).1 → wpX1_changes_65 y1 x2 Q N (nI n) (sg32 (sst v k).2) (nI k) (sg32 (v k)) τ2 := by
        intro n hn
        unfold wpX1_changes_65 wpX1_changes_79
        rw [sg32_eq0]
        refine ⟨fun hz a1 ha1 => ?_, fun hz a1 ha1 => ?_⟩
        · refine hN _ _ _ _ ⟨k + 1, by omega, by rw [ha1, nI_1], by rw [hn], ?_, hC2⟩ (hmeas a1 ha1)
          show sg32 (v k) = sg32 (if v k = 0 then _ else v k)
          rw [if_neg hz]
        · refine hN _ _ _ _ ⟨k + 1, by omega, by rw [ha1, nI_1], by rw [hn], ?_, hC2⟩ (hmeas a1 ha1)
          show _ = sg32 (if v k = 0 then _ else v k)
          rw [if_pos hz]
      unfold wpX1_changes_54
      rw [sg32_mul, sg32_nn]
      refine ⟨fun hn => h65 _ ?_, fun hn a2 ha2 => ?_⟩
      · show _ = if v k * (sst v k).2 < 0 then _ else _
        rw [if_neg hn]
      · rw [nI_1] at ha2
        subst ha2
        refine h65 _ ?_
        show _ = if v k * (sst v k).2 < 0 then _ else _
        rw [if_pos (Decidable.not_not.mp hn)]
    refine ⟨fun hx => ⟨pk_in k _ (by omega), sp_signAt (by omega) (hst (by omega) hC) (link_bd (by omega) (hst (by omega) hC)) hy (by decide) (fun τ2 hC2 => ?_)⟩, fun hx => ⟨pk_in k _ (by omega), sp_signBeyond (hst (by omega) hC) ?_⟩⟩
    · have h2 := hstep τ2 (hC.trans hC2)
      rw [hv k, if_pos hx] at h2
      exact h2
    · have h2 := hstep τ hC
      rw [hv k, if_neg hx] at h2
      have e : (if y1.toInt < 0 ∧ dl (L k) % 2 = 0 then -sg32 (lc (L k)) else sg32 (lc (L k))) = sg32 (vFar L (decide (y1.toInt < 0)) k) := by
        unfold vFar
        simp only [decide_eq_true_iff]
        split
        · exact (sg32_neg _).symm
        · rfl
      rw [e]
      exact h2
theorem sp_changesAt {y1 : Int64} {l : Nat} {L : Nat → Row} {σ : CS} {Q : Int32 → CS → Prop} (hl : l ≤ 9) (hK : cK σ 0 = nI l) (hP : ∀ i, i ≤ l → Pl σ (10 + i) (L i)) (hy : y1.toInt.natAbs ≤ 2147483648)
    (hQ : ∀ σ', Cg σ σ' tC' (fun _ => False) → Q (nI (cAt L l y1.toInt)) σ') : wpX1_changes y1 0 σ Q :=
  sp_changes0 (v := vAt L y1.toInt) hl hK hP hy (fun _ => (if_pos rfl).symm) hQ
theorem sp_changesFar {y1 : Int64} {l : Nat} {L : Nat → Row} {σ : CS} {Q : Int32 → CS → Prop} (hl : l ≤ 9) (hK : cK σ 0 = nI l) (hP : ∀ i, i ≤ l → Pl σ (10 + i) (L i)) (hy : y1.toInt.natAbs ≤ 2147483648)
    (hQ : ∀ σ', Cg σ σ' tC' (fun _ => False) → Q (nI (cFar L l (decide (y1.toInt < 0)))) σ') : wpX1_changes y1 1 σ Q :=
  sp_changes0 (v := vFar L (decide (y1.toInt < 0))) hl hK hP hy (fun _ => (if_neg (by decide)).symm) hQ
def rbl (L : Nat → Row) (l : Nat) (p : Int) : Int32 := if vAt L p 0 = 0 then nI (cFar L l true) - nI (cAt L l p) - 1 else nI (cFar L l true) - nI (cAt L l p)
theorem sp_rootsBelow {y1 : Int64} {l : Nat} {L : Nat → Row} {σ : CS} {Q : Int32 → CS → Prop} (hl : l ≤ 9) (hK : cK σ 0 = nI l) (hP : ∀ i, i ≤ l → Pl σ (10 + i) (L i)) (hy : y1.toInt.natAbs ≤ 2147483648)
    (hQ : ∀ σ', Cg σ σ' tC' (fun _ => False) → Q (rbl L l y1.toInt) σ') : wpX1_rootsBelow y1 (nI (cFar L l true)) σ Q := by
  have e0 : (0 : Int32).toNatClampNeg = 0 := rfl
  show wpX1_rootsBelow_0 y1 _ Q σ
  unfold wpX1_rootsBelow_0
  rw [e0]
  refine sp_changesAt hl hK hP hy (fun τ1 hC1 a3 ha3 => ⟨v0, ?_⟩)
  have hP0 : Pl τ1 10 (L 0) := (hP 0 (Nat.zero_le _)).cg hC1 (fun w hw hz => absurd hw.2 (by unfold tC' at hz; omega)) (fun z => z)
  refine sp_signAt (by omega) hP0 (link_bd (i := 0) (by omega) hP0) hy (by decide) (fun τ2 hC2 => ?_)
  rw [sg32_eq0]
  subst ha3
  have hv : hvo (L 0) y1.toInt (1 : Int64).toInt (dl (L 0)) 0 1 = vAt L y1.toInt 0 := rfl
  rw [hv]
  refine ⟨fun hz => ?_, fun hz => ?_⟩
  · have h2 := hQ τ2 (hC1.trans hC2)
    unfold rbl at h2
    rw [if_neg hz] at h2
    exact h2
  · have h2 := hQ τ2 (hC1.trans hC2)
    unfold rbl at h2
    rw [if_pos hz] at h2
    exact h2
/-- halving: T m says that the root lies below m -/
def bis (T : Int → Bool) : Nat → Int → Int → Int
  | 0, lo, _ => lo
  | n + 1, lo, hi => if hi - lo ≤ 1 then lo else if T ((lo + hi) / 2) = true then bis T n lo ((lo + hi) / 2) else bis T n ((lo + hi) / 2) hi
theorem bis_done {T : Int → Bool} {n : Nat} {lo hi : Int} (h : hi - lo ≤ 1) : bis T n lo hi = lo := by
  cases n with
  | zero => rfl
  | succ n => exact if_pos h
def flr (L : Nat → Row) (l : Nat) (k : Int32) : Int := if k < rbl L l (-2147483647) ∨ ¬ k < rbl L l 2147483648 then -9223372036854775808 else bis (fun m => decide (k < rbl L l m)) 64 (-2147483647) 2147483648
theorem lg_le {x y : Int64} : lg_cmp x y ≤ 0 ↔ x ≤ y := by
  rw [← Int32.not_lt, lg_gt, Int64.not_lt]
theorem i64_sub {a b : Int64} (h1 : -(2 ^ 62 : Int) < a.toInt) (h2 : a.toInt < 2 ^ 62) (h3 : -(2 ^ 62 : Int) < b.toInt) (h4 : b.toInt < 2 ^ 62) : (a - b).toInt = a.toInt - b.toInt := by
  rw [Int64.toInt_sub, Int.bmod_eq_of_le] <;> omega
theorem i64_mid {a b : Int64} (h1 : -(2 ^ 61 : Int) < a.toInt) (h2 : a.toInt ≤ b.toInt) (h4 : b.toInt < 2 ^ 61) : (a + (b - a) / 2).toInt = (a.toInt + b.toInt) / 2 := by
  have e1 := i64_sub (a := b) (b := a) (by omega) (by omega) (by omega) (by omega)
  have e2 : ((b - a) / 2).toInt = (b.toInt - a.toInt) / 2 := by
    rw [Int64.toInt_div_of_ne_right _ _ (by decide), e1]
    exact Int.tdiv_eq_ediv_of_nonneg (by omega)
  rw [Int64.toInt_add, e2, Int.bmod_eq_of_le] <;> omega
theorem sp_floorOfRoot {k : Int32} {l : Nat} {L : Nat → Row} {σ : CS} {Q : Int64 → CS → Prop} (hl : l ≤ 9) (hK : cK σ 0 = nI l) (hP : ∀ i, i ≤ l → Pl σ (10 + i) (L i))
    (hQ : ∀ σ' (r : Int64), r.toInt = flr L l k → Cg σ σ' tC' (fun _ => False) → Q r σ') : wpX1_floorOfRoot k σ Q := by
  have hst : ∀ {τ : CS}, Cg σ τ tC' (fun _ => False) → ∀ i, i ≤ l → Pl τ (10 + i) (L i) := fun hC i hi => (hP _ hi).cg hC (fun w hw hz => absurd hw.2 (by unfold tC' at hz; omega)) (fun z => z)
  have hk : ∀ {τ : CS}, Cg σ τ tC' (fun _ => False) → cK τ 0 = nI l := fun hC => by rw [hC.2.2 0]; exact hK
  show wpX1_floorOfRoot_0 k Q σ
  unfold wpX1_floorOfRoot_0 wpX1_floorOfRoot_39
  refine sp_changesFar hl hK hP (by decide) (fun τ1 hC1 => ?_)
  rw [show decide ((-1 : Int64).toInt < 0) = true by decide]
  refine sp_rootsBelow hl (hk hC1) (hst hC1) (by decide) (fun τ2 hC2 => ?_)
  have hC12 := hC1.trans hC2
  rw [show (-2147483647 : Int64).toInt = -2147483647 by decide]
  refine ⟨fun h1 => hQ τ2 _ ?_ hC12, fun h1 => ?_⟩
  · unfold flr
    rw [if_pos (Or.inl h1)]
    decide
  · refine sp_rootsBelow hl (hk hC12) (hst hC12) (by decide) (fun τ3 hC3 => ?_)
    have hC13 := hC12.trans hC3
    rw [show (2147483648 : Int64).toInt = 2147483648 by decide]
    refine ⟨fun h2 => ?_, fun h2 => hQ τ3 _ ?_ hC13⟩
    · have hfl : flr L l k = bis (fun m => decide (k < rbl L l m)) 64 (-2147483647) 2147483648 := if_neg (fun h => h.elim h1 (fun h => h h2))
      refine lq5_i (I := fun i2 l3 l5 i7 τ => i2 = nI (cFar L l true) ∧ ∃ t, t ≤ 64 ∧ i7 = nI t ∧ -2147483647 ≤ l3.toInt ∧ l3.toInt ≤ l5.toInt ∧ l5.toInt ≤ 2147483648 ∧ bis (fun m => decide (k < rbl L l m)) (64 - t) l3.toInt l5.toInt = flr L l k ∧ Cg σ τ tC' (fun _ => False)) (μ := fun _ _ _ i7 _ => 64 - i7.toNatClampNeg) ?_ _ _ _ _ _ ⟨rfl, 0, by omega, rfl, by decide, by decide, by decide, hfl.symm, hC13⟩
      rintro N i2 l3 l5 i7 τ ⟨rfl, t, ht, rfl, hl3, hlo, hl5, hb, hC⟩ hN
      unfold wbX1_floorOfRoot_46 wpX1_floorOfRoot_101 wpX1_floorOfRoot_95
      refine pk_le 64 t (fun h3 => ?_) (fun h3 => ?_) rfl rfl (by omega) (by omega)
      · rw [show 64 - t = 0 by omega] at hb
        exact hQ τ l3 hb hC
      · have e1 := i64_sub (a := l5) (b := l3) (by omega) (by omega) (by omega) (by omega)
        rw [lg_le, Int64.le_iff_toInt_le, e1, show (1 : Int64).toInt = 1 by decide]
        refine ⟨fun h4 => ?_, fun h4 b2 hb2 => ?_⟩
        · rw [bis_done h4] at hb
          exact hQ τ l3 hb hC
        · have e2 := i64_mid (a := l3) (b := l5) (by omega) hlo (by omega)
          rw [← hb2] at e2
          obtain ⟨n, hn⟩ : ∃ n, 64 - t = n + 1 := ⟨63 - t, by omega⟩
          rw [hn] at hb
          have hb' : (if l5.toInt - l3.toInt ≤ 1 then l3.toInt else if decide (k < rbl L l ((l3.toInt + l5.toInt) / 2)) = true then bis (fun m => decide (k < rbl L l m)) n l3.toInt ((l3.toInt + l5.toInt) / 2) else bis (fun m => decide (k < rbl L l m)) n ((l3.toInt + l5.toInt) / 2) l5.toInt) = flr L l k := hb
          rw [if_neg h4, ← e2] at hb'
          have hm1 : -2147483647 ≤ b2.toInt ∧ b2.toInt ≤ 2147483648 ∧ l3.toInt ≤ b2.toInt ∧ b2.toInt ≤ l5.toInt := by omega
          have hmeas : ∀ a : Int32, a = nI t + 1 → 64 - a.toNatClampNeg < 64 - (nI t).toNatClampNeg := by
            intro a ha
            subst ha
            rw [nI_1, nI_clamp (by omega), nI_clamp (by omega)]
            omega
          refine sp_rootsBelow hl (hk hC) (hst hC) (by omega) (fun τ4 hC4 => ⟨fun h5 a1 ha1 => ?_, fun h5 a1 ha1 => ?_⟩)
          · rw [if_pos (decide_eq_true h5)] at hb'
            refine hN _ _ _ _ _ ⟨rfl, t + 1, by omega, by rw [ha1, nI_1], by omega, by omega, by omega, ?_, hC.trans hC4⟩ (hmeas a1 ha1)
            rw [show 64 - (t + 1) = n by omega]
            exact hb'
          · rw [if_neg (fun h => h5 (of_decide_eq_true h))] at hb'
            refine hN _ _ _ _ _ ⟨rfl, t + 1, by omega, by rw [ha1, nI_1], by omega, by omega, by omega, ?_, hC.trans hC4⟩ (hmeas a1 ha1)
            rw [show 64 - (t + 1) = n by omega]
            exact hb'
    · unfold flr
      rw [if_pos (Or.inr h2)]
      decide
