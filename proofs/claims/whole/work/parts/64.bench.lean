/-! PURE: reduce, rest -/
def redS (y : Nat → Int) (d : Nat) (W : Nat → Int) (u i : Nat) : Int := if y d < 0 then -(W i * y d - (if u ≤ i then W (d + u) * y (i - u) else 0)) else W i * y d - (if u ≤ i then W (d + u) * y (i - u) else 0)
def red (y : Nat → Int) (d : Nat) : Nat → (Nat → Int) → Nat → Int
  | 0, W => W
  | u + 1, W => red y d u (redS y d W u)
theorem redS_abs (y : Nat → Int) (d : Nat) (W : Nat → Int) (u i : Nat) : (redS y d W u i).natAbs = (W i * y d - (if u ≤ i then W (d + u) * y (i - u) else 0)).natAbs := by
  unfold redS
  split
  · exact Int.natAbs_neg _
  · rfl
theorem redS_top {y : Nat → Int} {d : Nat} {W : Nat → Int} {u i : Nat} (hy : ∀ j, d < j → y j = 0) (hW : ∀ j, d + u < j → W j = 0) (hi : d + u ≤ i) : redS y d W u i = 0 := by
  have : (W i * y d - (if u ≤ i then W (d + u) * y (i - u) else 0)) = 0 := by
    rw [if_pos (by omega)]
    rcases Nat.eq_or_lt_of_le hi with e | e
    · rw [← e, Nat.add_sub_cancel, Int.sub_self]
    · rw [hW i e, hy (i - u) (by omega), Int.zero_mul, Int.mul_zero, Int.sub_self]
  unfold redS
  rw [this]
  split <;> rfl
theorem red_top {y : Nat → Int} {d : Nat} (hy : ∀ j, d < j → y j = 0) : ∀ {u : Nat} {W : Nat → Int} {i : Nat}, (∀ j, d + u ≤ j → W j = 0) → d ≤ i → red y d u W i = 0 := by
  intro u
  induction u with
  | zero => intro W i hW hi; exact hW i hi
  | succ u ih =>
    intro W i hW hi
    exact ih (fun j hj => redS_top hy (fun k hk => hW k (by omega)) hj) hi
theorem natAbs_sub_le (a b : Int) : (a - b).natAbs ≤ a.natAbs + b.natAbs := by omega
theorem redS_bd {y : Nat → Int} {d : Nat} {W : Nat → Int} {u i X Y : Nat} (hW : ∀ i, (W i).natAbs ≤ X) (hy : ∀ i, (y i).natAbs ≤ Y) : (redS y d W u i).natAbs ≤ X * (2 * Y) := by
  rw [redS_abs]
  refine Nat.le_trans (natAbs_sub_le _ _) ?_
  have h1 : (W i * y d).natAbs ≤ X * Y := by rw [Int.natAbs_mul]; exact Nat.mul_le_mul (hW _) (hy _)
  have h2 : (if u ≤ i then W (d + u) * y (i - u) else 0).natAbs ≤ X * Y := by
    split
    · rw [Int.natAbs_mul]; exact Nat.mul_le_mul (hW _) (hy _)
    · exact Nat.zero_le _
  rw [show X * (2 * Y) = X * Y + X * Y by rw [Nat.mul_left_comm]; omega]
  omega
theorem red_bd {y : Nat → Int} {d Y : Nat} (hy : ∀ i, (y i).natAbs ≤ Y) : ∀ {u X : Nat} {W : Nat → Int}, (∀ i, (W i).natAbs ≤ X) → ∀ i, (red y d u W i).natAbs ≤ X * (2 * Y) ^ u := by
  intro u
  induction u with
  | zero => intro X W h i; rw [Nat.pow_zero, Nat.mul_one]; exact h i
  | succ u ih =>
    intro X W h i
    rw [Nat.pow_succ', ← Nat.mul_assoc]
    exact ih (fun j => redS_bd h hy) i
theorem dgs : ∀ a, a < 10 → ∀ b, b < 10 → b ≤ a + 1 → nI a - 1 - (nI b - 1) = nI (a + 1 - b) - 1 := by decide +kernel
theorem dgs_neg : ∀ a, a < 10 → ∀ b, b < 10 → a + 1 < b → nI a - 1 - (nI b - 1) < 0 := by decide +kernel
theorem dgs_add : ∀ a, a < 10 → ∀ b, b < 10 → 0 < a → nI a - 1 + nI b = nI (a - 1 + b) := by decide +kernel
theorem le_mul_pow {X Z k : Nat} (hZ : 1 ≤ Z) : X ≤ X * Z ^ k := Nat.le_mul_of_pos_right _ (Nat.pow_pos hZ)
theorem sp_reduce {p1 X Y : Nat} {c y : Nat → Int} {σ : CS} {Q : CS → Prop} (hp1 : p1 < 20) (hp8 : p1 ≠ 8) (h8 : Pl σ 8 c) (h1 : Pl σ p1 y) (hy0 : dl y ≠ 0) (hX : ∀ i, (c i).natAbs ≤ X) (hY : ∀ i, (y i).natAbs ≤ Y) (hb : X * (2 * Y) ^ (dl c + 1 - dl y) < 2147483648 ^ 299)
    (hQ : ∀ σ', Pl σ' 8 (red y (dl y - 1) (dl c + 1 - dl y) c) → Cg σ σ' bS bD → Q σ') : wpX0_reduce p1 σ Q := by
  have hdc := dl_le c
  have hdy := dl_le y
  have hly := h1.len
  have t1 := tlen_le p1
  have t8 := tlen8
  show wpX0_reduce_0 p1 Q σ
  unfold wpX0_reduce_0
  rw [h1.2.2, h8.2.2, deg_nn hdy]
  refine ⟨fun _ => ?_, fun h => absurd hy0 h⟩
  obtain ⟨d, hd⟩ : ∃ d, dl y = d + 1 := ⟨dl y - 1, by omega⟩
  have hd' : nI (dl y) - 1 = nI d := by rw [deg_s hy0, hd, Nat.add_sub_cancel]
  have hlead : y d ≠ 0 := by
    have : y (dl y - 1) ≠ 0 := ln_top hy0
    rw [hd, Nat.add_sub_cancel] at this
    exact this
  have hY1 : 1 ≤ Y := Nat.le_trans (by omega) (hY d)
  have hy9 : ∀ j, d < j → y j = 0 := fun j hj => h1.zero (by omega)
  have hc9 : ∀ j, dl c ≤ j → c j = 0 := fun j hj => h8.zero hj
  rw [hd']
  refine ⟨pk_in d _ (by omega), fun a24 ha24 => ?_⟩
  rw [nI_clamp (by omega)]
  have hend : ∀ τ V, Wk τ V → (∀ j, d ≤ j → V j = 0 ∨ True) → (∀ j, 9 ≤ j → V j = 0) → Cg σ τ bS bD → V = red y (dl y - 1) (dl c + 1 - dl y) c → wpX2_measure 8 τ (fun σ17 => Q σ17) := by
    intro τ V hV _ h9 hC he
    refine sp_measure8 hV h9 hC (fun σ' g1 g2 => hQ σ' ?_ g2)
    rw [← he]
    exact g1
  by_cases hlt : dl c + 1 < dl y
  · refine ⟨1, ?_⟩
    show wbX0_reduce_31 p1 Q _ _ _ _
    unfold wbX0_reduce_31
    have hneg : a24 < 0 := by
      rw [ha24, ← hd']
      exact dgs_neg _ (by omega) _ (by omega) hlt
    exact ⟨fun _ => hend σ c h8.wk (fun _ _ => Or.inr trivial) (fun j hj => h8.top hj) (Cg.refl _ _ _) (by rw [show dl c + 1 - dl y = 0 by omega]; rfl), fun h => absurd hneg h⟩
  · have hK : a24 = nI (dl c + 1 - dl y) - 1 := by
      rw [ha24, ← hd']
      exact dgs _ (by omega) _ (by omega) (by omega)
    refine lp_dn3 (16 * p1 + d) (I := fun k τ => ∃ V, Wk τ V ∧ (∀ j, d + k ≤ j → V j = 0) ∧ (∃ Z, (∀ i, (V i).natAbs ≤ Z) ∧ Z * (2 * Y) ^ k < 2147483648 ^ 299) ∧ red y d k V = red y (dl y - 1) (dl c + 1 - dl y) c ∧ Cg σ τ bS bD) (dl c + 1 - dl y) (by omega) ?_ σ ⟨c, h8.wk, fun j hj => hc9 j (by omega), ⟨X, hX, hb⟩, by rw [hd, Nat.add_sub_cancel], Cg.refl _ _ _⟩ hK
    rintro N k τ hk ⟨V, hV, hV0, ⟨Z, hZ, hZb⟩, hred, hC⟩ hN
    unfold wbX0_reduce_31
    rw [dg_lt0 (by omega)]
    refine ⟨fun hk0 => ?_, fun hk0 => ?_⟩
    · subst hk0
      exact hend τ V hV (fun _ _ => Or.inr trivial) (fun j hj => hV0 j (by omega)) hC hred
    · obtain ⟨u, rfl⟩ : ∃ u, k = u + 1 := ⟨k - 1, by omega⟩
      have hPy : Pl τ p1 y := h1.b hC hp8 hp1
      have e1 : nI (u + 1) - 1 = nI u := by rw [deg_s (by omega), Nat.add_sub_cancel]
      have hdu : d + u < 9 := by omega
      rw [e1, hPy.2.2, hd', nI_add, nI_clamp (by omega)]
      -- bounds
      have b0 : Z < 2147483648 ^ 299 := Nat.lt_of_le_of_lt (le_mul_pow (by omega)) hZb
      have b1 : Z * (2 * Y) < 2147483648 ^ 299 := by
        rw [Nat.pow_succ', ← Nat.mul_assoc] at hZb
        exact Nat.lt_of_le_of_lt (le_mul_pow (by omega)) hZb
      have b2 : ∀ i j, (V i * y j).natAbs ≤ Z * Y := fun i j => by rw [Int.natAbs_mul]; exact Nat.mul_le_mul (hZ i) (hY j)
      have b3 : Z * (2 * Y) = Z * Y + Z * Y := by rw [Nat.mul_left_comm]; omega
      have bV : ∀ i, (V i).natAbs < 2147483648 ^ 300 := fun i => Nat.lt_of_le_of_lt (hZ i) (lt_cap b0 (by omega))
      refine ⟨pk_in (d + u) _ (by omega), sp_load (hV (d + u) hdu) (by rw [capT (by omega) (by omega) (by omega)]; exact bV _) (fun τ1 hr1 hc1 => sp_clear (fun τ2 hr2 hc2 => ?_))⟩
      have hV2 := (hV.t hc1 (by omega)).pu hc2 hr2
      have hone := hr1.ch hc2 (by omega)
      have hC2 := (hC.trans (hc1.b3 (by omega))).trans (hc2.b8 (by omega))
      refine lp_up4 (16 * p1 + d) (nI u) (I := fun k τ => Wk τ (fun i => if i < k then redS y d V u i else pu V (d + u) 0 i) ∧ RpW τ 320 (V (d + u)) ∧ Cg σ τ bS bD) (d + u) (by omega) ?_ τ2 ⟨hV2.congr (fun i hi => if_neg (by omega)), hone, hC2⟩
      rintro N2 k τ3 hk3 ⟨hW3, hone3, hC3⟩ hN2
      have hPy3 : Pl τ3 p1 y := h1.b hC3 hp8 hp1
      unfold wbX0_reduce_68
      rw [hPy3.2.2, hd', nI_add, nI_clamp (by omega)]
      refine pk_le (d + u) k (fun hh a7 ha7 => ?_) (fun hh => ⟨pk_in k _ (by omega), ?_⟩) rfl rfl (by omega) (by omega)
      · subst ha7
        have e2 : k = d + u := by omega
        subst e2
        refine hN u τ3 rfl ⟨redS y d V u, hW3.congr (fun i hi => ?_), fun j hj => redS_top hy9 (fun j hj => hV0 j (by omega)) hj, ⟨Z * (2 * Y), fun i => redS_bd hZ hY, ?_⟩, hred, hC3⟩
        · by_cases e : i < d + u
          · rw [if_pos e]
          · rw [if_neg e, redS_top hy9 (fun j hj => hV0 j (by omega)) (by omega)]
            by_cases e2 : i = d + u
            · rw [e2, pu_e]
            · rw [pu_n e2, hV0 i (by omega)]
        · rw [Nat.mul_assoc, ← Nat.pow_succ']
          exact hZb
      · have hr := hW3 k (by omega)
        dsimp only at hr
        rw [if_neg (by omega), pu_n (by omega)] at hr
        refine sp_prod (by omega) (by omega) hr (hPy3.1 d (by omega)) (capT (by omega) (by omega) (by omega)) (Nat.lt_of_le_of_lt (b2 k d) (by omega)) (fun τ4 hr4 hc4 => ?_)
        -- the tail: sign and store
        have htail : ∀ τ5 z, RpW τ5 321 z → z = V k * y d - (if u ≤ k then V (d + u) * y (k - u) else 0) → Cg σ τ5 bS bD → Wk τ5 (fun i => if i < k then redS y d V u i else pu V (d + u) 0 i) → RpW τ5 320 (V (d + u)) → wpX0_reduce_135 p1 Q N N2 (16 * p1 + d) (nI u) (nI k) τ5 := by
          intro τ5 z hz hze hC5 hW5 hone5
          have hPy5 : Pl τ5 p1 y := h1.b hC5 hp8 hp1
          have hst : ∀ τ6, RpW τ6 321 (redS y d V u k) → Cg σ τ6 bS bD → Wk τ6 (fun i => if i < k then redS y d V u i else pu V (d + u) 0 i) → RpW τ6 320 (V (d + u)) → wpX0_reduce_149 p1 Q N N2 (16 * p1 + d) (nI u) (nI k) τ6 := by
            intro τ6 hz6 hC6 hW6 hone6
            unfold wpX0_reduce_149
            rw [nI_clamp (by omega)]
            refine ⟨pk_in k _ (by omega), sp_load hz6 ?_ (fun τ7 hr7 hc7 a4 ha4 => ?_)⟩
            · rw [cap8 (by omega)]
              exact Nat.lt_of_le_of_lt (redS_bd hZ hY) (lt_cap b1 (by omega))
            · subst ha4
              refine hN2 τ7 hh ⟨(hW6.pu hc7 hr7).congr (fun i hi => ?_), hone6.ch hc7 (by omega), hC6.trans (hc7.b8 (by omega))⟩
              by_cases e : i = k
              · subst e
                rw [pu_e, if_pos (by omega)]
              · rw [pu_n e]
                by_cases e2 : i < k
                · rw [if_pos e2, if_pos (by omega)]
                · rw [if_neg e2, if_neg (by omega)]
          unfold wpX0_reduce_135
          rw [(hPy5.1 d (by omega)).sg]
          by_cases hneg : y d < 0
          · rw [sg32_lt hneg]
            refine ⟨fun h => absurd h (by decide), fun _ => sp_negate hz (fun τ6 hr6 hc6 => hst τ6 ?_ (hC5.trans (hc6.b3 (by omega))) (hW5.t hc6 (by omega)) (hone5.ch hc6 (by omega)))⟩
            unfold redS
            rw [if_pos hneg, ← hze]
            exact hr6
          · rw [sg32_pos (by omega)]
            refine ⟨fun _ => hst τ5 ?_ hC5 hW5 hone5, fun h => absurd (by decide) h⟩
            unfold redS
            rw [if_neg hneg, ← hze]
            exact hz
        have hC4 := hC3.trans (hc4.b3 (by omega))
        have hW4 := hW3.t hc4 (by omega)
        have hone4 := hone3.ch hc4 (by omega)
        refine pk_lt k u (fun hlt => ?_) (fun hge => ?_) rfl rfl (by omega) (by omega)
        · exact htail τ4 _ hr4 (by rw [if_neg (by omega), Int.sub_zero]) hC4 hW4 hone4
        · have hPy4 : Pl τ4 p1 y := h1.b hC4 hp8 hp1
          rw [pk_sub hge, nI_clamp (by omega)]
          refine ⟨pk_in (k - u) _ (by omega), sp_prod (by omega) (by omega) hone4 (hPy4.1 (k - u) (by omega)) (capT (by omega) (by omega) (by omega)) (Nat.lt_of_le_of_lt (b2 _ _) (by omega)) (fun τ5 hr5 hc5 => ?_)⟩
          refine sp_plus (s := -(V (d + u) * y (k - u))) (by omega) (hr4.ch hc5 (by omega)) hr5 (if_neg (by decide)).symm ?_ ?_ (fun τ6 hr6 hc6 => ?_)
          · rw [capT (by omega) (by omega) (by omega)]
            exact Nat.lt_of_le_of_lt (b2 _ _) (lt_cap (Nat.lt_of_le_of_lt (by omega) b1) (by omega))
          · rw [capT (by omega) (by omega) (by omega)]
            refine Nat.lt_of_le_of_lt (Int.natAbs_add_le _ _) ?_
            rw [Int.natAbs_neg]
            have q1 := b2 k d
            have q2 := b2 (d + u) (k - u)
            exact lt_cap (Nat.lt_of_le_of_lt (by omega) b1) (by omega)
          · exact htail τ6 _ hr6 (by rw [if_pos hge, Int.sub_eq_add_neg]) ((hC4.trans (hc5.b3 (by omega))).trans (hc6.b3 (by omega))) ((hW4.t hc5 (by omega)).t hc6 (by omega)) ((hone4.ch hc5 (by omega)).ch hc6 (by omega))
