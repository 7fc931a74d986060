/-! PURE: move, reduce, rest -/
theorem sp_prod {w0 w1 w2 : Nat} {σ : CS} {x y : Int} {Q : CS → Prop} (h01 : w0 ≠ w1) (h02 : w0 ≠ w2) (hx : RpW σ w1 x) (hy : RpW σ w2 y) (hc : capW w0 = 300) (hb : (x * y).natAbs < 2147483648 ^ 299)
    (hQ : ∀ σ', RpW σ' w0 (x * y) → Ch σ σ' (fun z => z = w0) → Q σ') : wpX3_product w0 w1 w2 σ Q := by
  obtain ⟨n1, ⟨r1, r2, r3⟩, t1, m1, s1⟩ := hx.raw
  obtain ⟨n2, ⟨q1, q2, q3⟩, t2, m2, s2⟩ := hy.raw
  have hc1 := capW_le w1
  have hc2 := capW_le w2
  refine sp_product (a := n1) (b := n2) h01 h02 hx hy (by rw [m1]; exact mag_lt _ _) (by rw [m2]; exact mag_lt _ _) ?_ hQ
  rw [hc]
  rcases Nat.eq_zero_or_pos n1 with e | e
  · omega
  rcases Nat.eq_zero_or_pos n2 with e2 | e2
  · omega
  have g1 : 2147483648 ^ (n1 - 1) ≤ x.natAbs := by
    rw [m1]
    have := mag_ge (f := cF σ w1) (n := n1 - 1) (by rw [Nat.sub_add_cancel e]; exact r3) (t1 (by omega))
    rw [Nat.sub_add_cancel e] at this
    exact this
  have g2 : 2147483648 ^ (n2 - 1) ≤ y.natAbs := by
    rw [m2]
    have := mag_ge (f := cF σ w2) (n := n2 - 1) (by rw [Nat.sub_add_cancel e2]; exact q3) (t2 (by omega))
    rw [Nat.sub_add_cancel e2] at this
    exact this
  rw [Int.natAbs_mul] at hb
  have g3 : 2147483648 ^ (n1 - 1 + (n2 - 1)) < 2147483648 ^ 299 := by
    rw [Nat.pow_add]
    exact Nat.lt_of_le_of_lt (Nat.mul_le_mul g1 g2) hb
  have g4 := (Nat.pow_lt_pow_iff_right (show 1 < 2147483648 by omega)).mp g3
  omega
/-- W j + t W (j + 1) + .. , k terms -/
def hsum (W : Nat → Int) (t : Int) : Nat → Nat → Int
  | 0, _ => 0
  | k + 1, j => W j + t * hsum W t k (j + 1)
/-- one round of the move: from power i on -/
def mvr (t : Int) (n : Nat) (W : Nat → Int) (i j : Nat) : Int := if i ≤ j ∧ j < n then hsum W t (n - j) j else W j
def mvN (t : Int) (n : Nat) (W : Nat → Int) : Nat → Nat → Int
  | 0 => W
  | k + 1 => mvr t n (mvN t n W k) k
theorem dl_zero {c : Nat → Int} (h9 : ∀ i, 9 ≤ i → c i = 0) {i : Nat} (h : dl c ≤ i) : c i = 0 := by
  rcases Nat.lt_or_ge i 9 with h1 | h1
  · exact ln_zero h h1
  · exact h9 i h1
theorem dl_uniq {c : Nat → Int} {L : Nat} (hL : L ≤ 9) (h1 : ∀ i, L ≤ i → c i = 0) (h2 : L ≠ 0 → c (L - 1) ≠ 0) : dl c = L := ln_uniq hL (fun i a _ => h1 i a) h2
theorem bd_lin {a b t : Int} {k : Nat} (ha : a.natAbs < 2147483648 ^ k) (hb : b.natAbs < 2147483648 ^ k) (ht : t.natAbs ≤ 2147483648) : (a + b * t).natAbs < 2147483648 ^ (k + 2) := by
  refine Nat.lt_of_le_of_lt (Int.natAbs_add_le a _) ?_
  rw [Int.natAbs_mul, Nat.pow_add]
  have h1 : b.natAbs * t.natAbs ≤ 2147483648 ^ k * 2147483648 := Nat.mul_le_mul (Nat.le_of_lt hb) ht
  generalize b.natAbs * t.natAbs = z at *
  generalize 2147483648 ^ k = y at *
  omega
theorem bd_t {b t : Int} {k : Nat} (hb : b.natAbs < 2147483648 ^ k) (ht : t.natAbs ≤ 2147483648) : (b * t).natAbs < 2147483648 ^ (k + 2) := by
  have := bd_lin (a := 0) (by exact Nat.pow_pos (by omega)) hb ht
  rw [Int.zero_add] at this
  exact this
theorem sp_move {p1 : Nat} {x2 : Int32} {c : Nat → Int} {σ : CS} {Q : CS → Prop} (hp1 : p1 < 8) (h1 : Pl σ p1 c) (hb1 : ∀ i, (c i).natAbs < 2147483648 ^ 6)
    (hQ : ∀ σ', Pl σ' 8 (mvN x2.toInt (dl c) c (dl c - 1)) → Cg σ σ' bS bD → Q σ') : wpX0_move p1 x2 σ Q := by
  show wpX0_move_0 p1 x2 Q σ
  unfold wpX0_move_0
  have hdl := dl_le c
  have h9 : ∀ i, 9 ≤ i → c i = 0 := fun i hi => h1.top hi
  have ht : x2.toInt.natAbs ≤ 2147483648 := by
    have := Int32.toInt_lt x2
    have := Int32.le_toInt x2
    omega
  refine sp_loadWork (by omega) h1 (fun i => lt_cap (hb1 i) (by omega)) (fun σ1 hP1 hC1 => ?_)
  -- the top stays
  have htop : ∀ k j, dl c ≤ j + 1 → mvN x2.toInt (dl c) c k j = c j := by
    intro k
    induction k with
    | zero => intro j _; rfl
    | succ k ih =>
      intro j hj
      show mvr _ _ _ _ _ = _
      unfold mvr
      split
      · next h =>
        rw [show dl c - j = 0 + 1 by omega]
        show _ + _ * (0 : Int) = _
        rw [Int.mul_zero, Int.add_zero]
        exact ih j hj
      · exact ih j hj
  have hdm : ∀ k, dl (mvN x2.toInt (dl c) c k) = dl c := fun k => dl_uniq hdl (fun i hi => by rw [htop k i (by omega)]; exact dl_zero h9 hi) (fun h => by rw [htop k _ (by omega)]; exact ln_top h)
  have hd8 : ∀ τ, Cg σ1 τ bS (fun _ => False) → cD τ 8 = nI (dl c) - 1 := fun τ hC => by rw [hC.2.1 8 (fun z => z)]; exact hP1.2.2
  refine lp_up (I := fun k τ => Wk τ (mvN x2.toInt (dl c) c k) ∧ (∀ i, (mvN x2.toInt (dl c) c k i).natAbs < 2147483648 ^ (6 + 18 * k)) ∧ Cg σ1 τ bS (fun _ => False)) (dl c - 1) (by omega) ?_ σ1 ⟨hP1.wk, hb1, Cg.refl _ _ _⟩
  rintro N k τ hk ⟨hW, hB, hC⟩ hN
  unfold wbX0_move_10
  rw [hd8 τ hC, deg_le hdl (by omega)]
  refine ⟨fun hk2 => ?_, fun hk2 a11 ha11 => ?_⟩
  · have : k = dl c - 1 := by omega
    subst this
    exact hQ τ ⟨hW, fun i hi => by rw [htop _ _ (by rw [tlen8] at hi; omega)]; exact h9 i hi, by rw [hdm]; exact hd8 τ hC⟩ (hC1.trans (hC.mono (fun _ z => z) (fun _ z => z.elim)))
  · rw [deg_s (show dl c ≠ 0 by omega)] at ha11
    have ex : ∀ j, j ≤ dl c → ∀ i, j ≤ i → i < 9 → True := fun _ _ _ _ _ => trivial
    generalize hV : mvN x2.toInt (dl c) c k = V at *
    -- j: the powers from j on are done
    refine lp_dn3 (nI k) (I := fun j τ => k ≤ j ∧ Wk τ (fun m => if j ≤ m ∧ m < dl c then hsum V x2.toInt (dl c - m) m else V m) ∧ (∀ m, j ≤ m → m < dl c → (hsum V x2.toInt (dl c - m) m).natAbs < 2147483648 ^ (6 + 18 * k + 2 * (dl c - 1 - j))) ∧ Cg σ1 τ bS (fun _ => False)) (dl c - 1) (by omega) ?_ τ ?_ ha11
    · rintro N2 j τ2 hj ⟨hkj, hW2, hB2, hC2⟩ hN2
      unfold wbX0_move_32
      have hlt : nI j - 1 < nI k ↔ j ≤ k := by
        rw [Int32.lt_iff_toInt_lt, deg_toInt (by omega), nI_toInt (by omega)]
        omega
      rw [hlt]
      refine ⟨fun hjk a1 ha1 => ?_, fun hjk => ?_⟩
      · subst ha1
        have e : j = k := by omega
        subst e
        refine hN τ2 (by omega) ⟨?_, fun m => ?_, hC2⟩
        · show Wk τ2 (mvr x2.toInt (dl c) (mvN x2.toInt (dl c) c j) j)
          rw [hV]
          exact hW2
        · show (mvr x2.toInt (dl c) (mvN x2.toInt (dl c) c j) j m).natAbs < _
          rw [hV]
          unfold mvr
          split
          · next h => exact lt_cap (hB2 m h.1 h.2) (by omega)
          · exact lt_cap (hB m) (by omega)
      · have e1 : nI j - 1 = nI (j - 1) := deg_s (by omega)
        rw [e1, nI_1, Nat.sub_add_cancel (show 1 ≤ j by omega), nI_clamp (by omega), nI_clamp (by omega)]
        have hj9 : j < 9 := by omega
        have t8 := tlen8
        have hrj := hW2 j hj9
        dsimp only at hrj
        rw [if_pos ⟨Nat.le_refl _, by omega⟩] at hrj
        have hbj := hB2 j (Nat.le_refl _) (by omega)
        generalize hz : hsum V x2.toInt (dl c - j) j = z at *
        refine ⟨pk_in j _ (by omega), sp_load hrj (by rw [capT (by omega) (by omega) (by omega)]; exact lt_cap hbj (by omega)) (fun τ3 hr3 hc3 => sp_scale (t := x2.toInt) hr3 (Int32.toInt_toInt64 x2) ht (by rw [capT (by omega) (by omega) (by omega)]; exact lt_cap (bd_t hbj ht) (by omega)) (fun τ4 hr4 hc4 => ⟨pk_in (j - 1) _ (by omega), ?_⟩))⟩
        have hW4 := (hW2.t hc3 (by omega)).t hc4 (by omega)
        have hr := hW4 (j - 1) (by omega)
        dsimp only at hr
        rw [if_neg (by omega)] at hr
        have hbn : (V (j - 1) + z * x2.toInt).natAbs < 2147483648 ^ (6 + 18 * k + 2 * (dl c - 1 - j) + 2) := bd_lin (lt_cap (hB (j - 1)) (by omega)) hbj ht
        refine sp_plus (s := z * x2.toInt) (by omega) hr hr4 (if_pos (by decide)).symm ?_ ?_ (fun τ5 hr5 hc5 a10 ha10 => ?_)
        · rw [cap8 (by omega)]
          exact lt_cap (bd_t hbj ht) (by omega)
        · rw [cap8 (by omega)]
          exact lt_cap hbn (by omega)
        · subst ha10
          have hsn : hsum V x2.toInt (dl c - (j - 1)) (j - 1) = V (j - 1) + z * x2.toInt := by
            rw [show dl c - (j - 1) = (dl c - j) + 1 by omega]
            show V (j - 1) + x2.toInt * hsum V x2.toInt (dl c - j) (j - 1 + 1) = _
            rw [Nat.sub_add_cancel (show 1 ≤ j by omega), hz, Int.mul_comm]
          refine hN2 (j - 1) τ5 (by omega) ⟨by omega, (hW4.pu hc5 hr5).congr (fun m hm => ?_), fun m h3 h4 => ?_, ((hC2.trans ((hc3.cg _).mono (fun w hw => Or.inr (by omega)) (fun _ z => z))).trans ((hc4.cg _).mono (fun w hw => Or.inr (by omega)) (fun _ z => z))).trans ((hc5.p (by omega)).mono (fun _ z => Or.inl z) (fun _ z => z))⟩
          · by_cases e : m = j - 1
            · subst e
              rw [pu_e, if_pos (by omega), hsn]
            · rw [pu_n e]
              by_cases e2 : j ≤ m ∧ m < dl c
              · rw [if_pos e2, if_pos (by omega)]
              · rw [if_neg e2, if_neg (by omega)]
          · rcases Nat.eq_or_lt_of_le h3 with e | e
            · rw [← e, hsn]
              exact lt_cap hbn (by omega)
            · exact lt_cap (hB2 m (by omega) h4) (by omega)
    · refine ⟨by omega, hW.congr (fun m hm => ?_), fun m h3 h4 => ?_, hC⟩
      · by_cases e2 : dl c - 1 ≤ m ∧ m < dl c
        · rw [if_pos e2, show dl c - m = 0 + 1 by omega]
          show V m + _ * (0 : Int) = _
          rw [Int.mul_zero, Int.add_zero]
        · rw [if_neg e2]
      · rw [show dl c - m = 0 + 1 by omega]
        show (V m + _ * (0 : Int)).natAbs < _
        rw [Int.mul_zero, Int.add_zero]
        exact lt_cap (hB m) (by omega)
