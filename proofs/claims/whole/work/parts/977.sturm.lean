/-! MATHEMATICS: a chain of a polynomial and its slope changes at least as often at a point as far away -/
theorem hvo_hs (c : Row) (a : Int) : ∀ (k : Nat) (o : Int), hvo c a 1 k o 1 = o * a ^ k + hsum c a k 0 := by
  intro k
  induction k with
  | zero =>
    intro o
    rw [Int.pow_zero, Int.mul_one, show hsum c a 0 0 = 0 from rfl, Int.add_zero]
    rfl
  | succ k ih =>
    intro o
    show hvo c a 1 k (o * a + c k * 1) (1 * 1) = _
    rw [Int.mul_one, Int.mul_one, ih, hs_snoc, Nat.zero_add, Int.pow_succ]
    generalize a ^ k = P
    grind
theorem vat_hs {M : Nat → Row} {i : Nat} (h9 : ∀ m, 9 ≤ m → M i m = 0) (p : Int) : vAt M p i = hsum (M i) p 9 0 := by
  unfold vAt
  rw [hvo_hs, Int.zero_mul, Int.zero_add]
  exact (hs_ext (dl_le _) (fun j hj => dl_zero h9 (by omega))).symm
theorem en_int (N : Nat) (c : Row) (p : Int) : EN N c (p * N) = (N : Int) ^ 8 * hsum c p 9 0 := by
  rw [en_sm, hs_sm, sm_mul]
  refine sm_congr (fun j hj => ?_)
  have h1 : (N : Int) ^ 8 = (N : Int) ^ j * (N : Int) ^ (8 - j) := by rw [← Int.pow_add, show j + (8 - j) = 8 by omega]
  rw [h1, Int.mul_pow]
  generalize (N : Int) ^ j = P
  generalize (N : Int) ^ (8 - j) = R
  generalize p ^ j = S
  grind
theorem en_add (N : Nat) (A B : Row) (a : Int) : EN N (fun m => A m + B m) a = EN N A a + EN N B a := by
  unfold EN
  rw [← hs_add]
  congr 1
  funext m
  rw [Int.add_mul]
theorem en_mul (N : Nat) (t : Int) (A : Row) (a : Int) : EN N (fun m => t * A m) a = t * EN N A a := by
  unfold EN
  rw [← hs_mul]
  congr 1
  funext m
  rw [Int.mul_assoc]
theorem pm_sc {q B : Row} {N : Nat} (hB : ∀ i, 9 ≤ i → B i = 0) : ∀ (n m : Nat), n ≤ 9 → pm (fun j => q j * (N : Int) ^ (8 - j)) (fun j => B j * (N : Int) ^ (8 - j)) n m = (N : Int) ^ (16 - m) * pm q B n m := by
  intro n m
  induction n with
  | zero => intro _; exact (Int.mul_zero _).symm
  | succ n ih =>
    intro hn
    rw [pm_s, pm_s, ih (by omega)]
    by_cases e : n ≤ m
    · rw [if_pos e, if_pos e]
      by_cases e2 : m - n ≤ 8
      · have h1 : (N : Int) ^ (16 - m) = (N : Int) ^ (8 - n) * (N : Int) ^ (8 - (m - n)) := by rw [← Int.pow_add]; congr 1; omega
        rw [h1]
        generalize (N : Int) ^ (8 - n) = P
        generalize (N : Int) ^ (8 - (m - n)) = R
        grind
      · rw [hB (m - n) (by omega)]
        grind
    · rw [if_neg e, if_neg e, Int.add_zero, Int.add_zero]
theorem en_rel {A B C q : Row} {u s : Int} {N : Nat} (hA : ∀ i, 9 ≤ i → A i = 0) (hB : ∀ i, 9 ≤ i → B i = 0) (hC : ∀ i, 9 ≤ i → C i = 0) (h : ∀ m, u * A m + s * C m = pm q B 9 m) (a : Int) : (N : Int) ^ 8 * (u * EN N A a + s * EN N C a) = EN N q a * EN N B a := by
  have h1 := val_pm (q := fun j => q j * (N : Int) ^ (8 - j)) (G := fun j => B j * (N : Int) ^ (8 - j)) (t := a) (fun i hi => by show B i * _ = 0; rw [hB i hi, Int.zero_mul]) 9 (by omega)
  have h2 : (fun m => pm (fun j => q j * (N : Int) ^ (8 - j)) (fun j => B j * (N : Int) ^ (8 - j)) 9 m) = fun m => (N : Int) ^ 8 * ((u * A m + s * C m) * (N : Int) ^ (8 - m)) := by
    funext m
    rw [pm_sc hB 9 m (by omega), ← h m]
    rcases Nat.lt_or_ge m 9 with e | e
    · have h3 : (N : Int) ^ (16 - m) = (N : Int) ^ 8 * (N : Int) ^ (8 - m) := by rw [← Int.pow_add]; congr 1; omega
      rw [h3]
      generalize (N : Int) ^ 8 = P
      generalize (N : Int) ^ (8 - m) = R
      grind
    · rw [hA m e, hC m e]
      grind
  rw [h2] at h1
  have h4 : val (fun m => (N : Int) ^ 8 * ((u * A m + s * C m) * (N : Int) ^ (8 - m))) a = (N : Int) ^ 8 * (u * EN N A a + s * EN N C a) := by
    rw [val9 (n := 9) (fun i hi => by rw [hA i hi, hC i hi]; grind) (by omega), hs_mul, ← en_mul, ← en_mul, ← en_add]
    rfl
  have h5 : val (fun j => B j * (N : Int) ^ (8 - j)) a = EN N B a := val9 (n := 9) (fun i hi => by rw [hB i hi, Int.zero_mul]) (by omega)
  rw [h4, h5] at h1
  exact h1
theorem bound_all {P : Nat → Nat → Prop} (hm : ∀ i C D, C ≤ D → P i C → P i D) : ∀ k, (∀ i, i < k → ∃ C, P i C) → ∃ C, ∀ i, i < k → P i C := by
  intro k
  induction k with
  | zero => intro _; exact ⟨0, fun i hi => absurd hi (by omega)⟩
  | succ k ih =>
    intro h
    obtain ⟨C, hC⟩ := ih (fun i hi => h i (by omega))
    obtain ⟨D, hD⟩ := h k (by omega)
    refine ⟨C + D, fun i hi => ?_⟩
    rcases Nat.eq_or_lt_of_le (Nat.le_of_lt_succ hi) with e | e
    · rw [e]; exact hm k D _ (by omega) hD
    · exact hm i C _ (by omega) (hC i e)
def Rl (M : Nat → Row) (i C : Nat) : Prop := ∃ (u s : Int) (q : Row), 0 < u ∧ 0 < s ∧ u.natAbs ≤ C ∧ (∀ j, (q j).natAbs ≤ C) ∧ ∀ m, u * M (i - 1) m + s * M (i + 1) m = pm q (M i) 9 m
theorem rl_ex {M : Nat → Row} {l i : Nat} (hS : SCp M l) (h1 : 1 ≤ i) (h2 : i < l) : ∃ C, Rl M i C := by
  obtain ⟨d, u, s, q, n, hu, hs, he⟩ := hS.2 i h1 h2
  have hA9 := (hS.1 (i - 1) (by omega)).2
  have hB9 := (hS.1 i (by omega)).2
  have hC9 := (hS.1 (i + 1) (by omega)).2
  have hP9 : ∀ m, 9 ≤ m → u * M (i - 1) m + s * M (i + 1) m = 0 := fun m hm => by rw [hA9 m hm, hC9 m hm]; grind
  by_cases e : dl (fun m => u * M (i - 1) m + s * M (i + 1) m) = 0
  · refine ⟨u.natAbs, u, s, fun _ => 0, hu, hs, Nat.le_refl _, fun _ => Nat.zero_le _, fun m => ?_⟩
    rw [pm_0 (fun _ _ => rfl)]
    exact dl_zero hP9 (show dl (fun m => u * M (i - 1) m + s * M (i + 1) m) ≤ m by omega)
  · obtain ⟨q', g1, g2, g3, g4, g5⟩ := dv_top hB9 hP9 (hS.1 i (by omega)).1 e (Dv.of he)
    refine ⟨u.natAbs + ns q' 9, u, s, q', hu, hs, by omega, fun j => ?_, g2⟩
    have := ns_ge9 g1 j
    omega
theorem sg_near {v w : Int} (h : (w - v).natAbs < v.natAbs) : sg32 w = sg32 v := by
  rcases Int.lt_trichotomy v 0 with e | e | e
  · rw [sg32_lt e, sg32_lt (by omega)]
  · omega
  · rw [sg32_pos e, sg32_pos (by omega)]
/-- far away, the sign is that of the highest power -/
theorem far_sg {c : Row} {X : Nat} {t : Int} (h9 : ∀ m, 9 ≤ m → c m = 0) (h0 : dl c ≠ 0) (hX : ∀ m, (c m).natAbs ≤ X) (ht : (9 * X : Int) < t) : sg32 (hsum c t 9 0) = sg32 (lc c) := by
  obtain ⟨d, hd⟩ : ∃ d, dl c = d + 1 := ⟨dl c - 1, by omega⟩
  have hd9 := dl_le c
  have hcd : c d ≠ 0 := by
    have : c (dl c - 1) ≠ 0 := ln_top h0
    rw [hd, Nat.add_sub_cancel] at this
    exact this
  rw [lc_s hd, hs_ext (k := d + 1) (by omega) (fun i hi => dl_zero h9 (by omega)), hs_snoc, Nat.zero_add]
  have hX1 : 1 ≤ X := by have := hX d; omega
  obtain ⟨T, rfl⟩ : ∃ T : Nat, t = T := ⟨t.toNat, by omega⟩
  have hT : 9 * X < T := by omega
  have hpos : (0 : Int) < (T : Int) ^ d := Int.pow_pos (by omega)
  have hpart : (hsum c (T : Int) d 0).natAbs < T ^ d := by
    rw [hs_sm]
    rcases Nat.eq_zero_or_pos d with e | e
    · subst e
      show (0 : Int).natAbs < T ^ 0
      rw [Nat.pow_zero]
      decide
    · obtain ⟨b, rfl⟩ : ∃ b, d = b + 1 := ⟨d - 1, by omega⟩
      have h1 : (sm (fun j => (T : Int) ^ j * c j) (b + 1)).natAbs ≤ (b + 1) * (T ^ b * X) := sm_bd (fun j hj => by
        rw [Int.natAbs_mul, Int.natAbs_pow, Int.natAbs_natCast]
        exact Nat.mul_le_mul (Nat.pow_le_pow_right (by omega) (by omega)) (hX j))
      have h2 : (b + 1) * (T ^ b * X) ≤ T ^ b * (9 * X) := by
        have : (b + 1) * (T ^ b * X) ≤ 9 * (T ^ b * X) := Nat.mul_le_mul_right _ (by omega)
        generalize T ^ b = P at *
        grind
      have h3 : T ^ b * (9 * X) < T ^ b * T := Nat.mul_lt_mul_of_pos_left hT (Nat.pow_pos (by omega))
      rw [Nat.pow_succ]
      omega
  have hz : sg32 (hsum c (T : Int) d 0 + (T : Int) ^ d * c d) = sg32 ((T : Int) ^ d * c d) := by
    refine sg_near ?_
    rw [show hsum c (T : Int) d 0 + (T : Int) ^ d * c d - (T : Int) ^ d * c d = hsum c (T : Int) d 0 by omega, Int.natAbs_mul, Int.natAbs_pow, Int.natAbs_natCast]
    exact Nat.lt_of_lt_of_le hpart (Nat.le_mul_of_pos_right _ (by omega))
  rw [hz]
  exact sg_pp (s := 1) (t := (T : Int) ^ d) (by omega) hpos (by rw [Int.one_mul])
theorem mul_lt_l {a b c : Nat} (h : c * a < c * b) : a < b := by
  rcases Nat.lt_or_ge a b with e | e
  · exact e
  · exact absurd (Nat.mul_le_mul_left c e) (by omega)
theorem sturm {M : Nat → Row} {l : Nat} (hl : 1 ≤ l) (hS : SCp M l) (hD : Pp (M 1) (dv (M 0))) (hE : dl (M l) = 1) (p : Int) : cFar M l false ≤ cAt M l p := by
  have h9 : ∀ i, i ≤ l → ∀ m, 9 ≤ m → M i m = 0 := fun i hi => (hS.1 i hi).2
  -- bounds
  obtain ⟨C, hC⟩ := bound_all (P := fun i C => 1 ≤ i → i < l → Rl M i C) (fun i C D hCD h a b => by
    obtain ⟨u, s, q, g1, g2, g3, g4, g5⟩ := h a b
    exact ⟨u, s, q, g1, g2, by omega, fun j => Nat.le_trans (g4 j) hCD, g5⟩) l (fun i _ => by
    by_cases e : 1 ≤ i ∧ i < l
    · obtain ⟨C, h⟩ := rl_ex hS e.1 e.2
      exact ⟨C, fun _ _ => h⟩
    · exact ⟨0, fun a b => absurd ⟨a, b⟩ e⟩)
  obtain ⟨X, hX⟩ := bound_all (P := fun i X => ∀ j, (M i j).natAbs ≤ X) (fun i C D hCD h j => Nat.le_trans (h j) hCD) (l + 1) (fun i hi => ⟨ns (M i) 9, ns_ge9 (h9 i (by omega))⟩)
  obtain ⟨t0, ht0⟩ : ∃ t0 : Int, (9 * X : Int) < t0 ∧ p ≤ t0 := ⟨9 * X + 1 + p.natAbs, by omega, by omega⟩
  obtain ⟨T, hT1, hTp, hTt⟩ : ∃ T : Nat, 1 ≤ T ∧ p.natAbs + 1 ≤ T ∧ t0.natAbs + 1 ≤ T := ⟨p.natAbs + t0.natAbs + 1, by omega, by omega, by omega⟩
  obtain ⟨s1, t1, hs1, ht1, hDr⟩ := hD
  obtain ⟨Cq, hCq⟩ : ∃ Cq, Cq = 9 * (C * T ^ 8) := ⟨_, rfl⟩
  obtain ⟨C2, hC2⟩ : ∃ C2, C2 = Cq + C + 1 := ⟨_, rfl⟩
  obtain ⟨C0, hC0⟩ : ∃ C0, C0 = C2 ^ l := ⟨_, rfl⟩
  obtain ⟨C1, hC1⟩ : ∃ C1, C1 = C2 * C0 := ⟨_, rfl⟩
  obtain ⟨K, hK⟩ : ∃ K, K = 9 * (8 * (X * T ^ 7)) := ⟨_, rfl⟩
  obtain ⟨K2, hK2⟩ : ∃ K2, K2 = 9 * (64 * (X * T ^ 7)) := ⟨_, rfl⟩
  obtain ⟨N, hN⟩ : ∃ N, N = C1 * K + C0 * t1.natAbs * K2 + 1 := ⟨_, rfl⟩
  have hC21 : 1 ≤ C2 := by omega
  have hC01 : 1 ≤ C0 := by rw [hC0]; exact Nat.pow_pos hC21
  have hC10 : C0 ≤ C1 := by rw [hC1]; exact Nat.le_mul_of_pos_left _ hC21
  have hN1 : 1 ≤ N := by omega
  have hN7 : 0 < N ^ 7 := Nat.pow_pos hN1
  have hN8 : N ^ 8 = N * N ^ 7 := by rw [Nat.pow_succ, Nat.mul_comm]
  -- the values at a / N
  have hEl : ∀ a, N ^ 8 ≤ (EN N (M l) a).natAbs := fun a => by
    have hz : ∀ m, 1 ≤ m → M l m = 0 := fun m hm => dl_zero (h9 l (Nat.le_refl _)) (by omega)
    have h0 : M l 0 ≠ 0 := by
      have : M l (dl (M l) - 1) ≠ 0 := ln_top (show dl (M l) ≠ 0 by omega)
      rw [hE] at this
      exact this
    have e1 : EN N (M l) a = M l 0 * (N : Int) ^ 8 := by
      unfold EN
      rw [hs_ext (k := 1) (by omega) (fun i hi => by rw [hz i (by omega), Int.zero_mul]), hs_s]
      show M l 0 * (N : Int) ^ 8 + a * 0 = _
      omega
    rw [e1, Int.natAbs_mul, Int.natAbs_pow, Int.natAbs_natCast]
    exact Nat.le_mul_of_pos_left _ (by omega)
  have hrel : ∀ a : Int, a.natAbs ≤ T * N → ∀ i, 1 ≤ i → i < l → ∃ u s : Int, 0 < u ∧ 0 < s ∧ u.natAbs ≤ C ∧ (u * EN N (M (i - 1)) a + s * EN N (M (i + 1)) a).natAbs ≤ Cq * (EN N (M i) a).natAbs := by
    intro a ha i h1 h2
    obtain ⟨u, s, q, g1, g2, g3, g4, g5⟩ := hC i h2 h1 h2
    refine ⟨u, s, g1, g2, g3, ?_⟩
    have h3 := en_rel (N := N) (h9 (i - 1) (by omega)) (h9 i (by omega)) (h9 (i + 1) (by omega)) g5 a
    have h4 := en_bd (N := N) hT1 ha g4
    rw [← hCq] at h4
    have h5 := congrArg Int.natAbs h3
    rw [Int.natAbs_mul, Int.natAbs_mul (EN N q a), Int.natAbs_pow, Int.natAbs_natCast] at h5
    have h6 : (EN N q a).natAbs * (EN N (M i) a).natAbs ≤ Cq * N ^ 8 * (EN N (M i) a).natAbs := Nat.mul_le_mul_right _ h4
    rw [← h5, show Cq * N ^ 8 * (EN N (M i) a).natAbs = N ^ 8 * (Cq * (EN N (M i) a).natAbs) by
      generalize N ^ 8 = P
      grind] at h6
    exact Nat.le_of_mul_le_mul_left h6 (Nat.pow_pos hN1)
  -- no two neighbours are tiny
  have htiny : ∀ a : Int, a.natAbs ≤ T * N → ∀ i, i < l → ¬ (C0 * (EN N (M i) a).natAbs < N ^ 8 ∧ C0 * (EN N (M (i + 1)) a).natAbs < N ^ 8) := by
    intro a ha i hi ⟨z1, z2⟩
    have hpw : ∀ k, N ^ 8 ≤ C2 ^ k * N ^ 8 := fun k => Nat.le_mul_of_pos_left _ (Nat.pow_pos hC21)
    have go : ∀ k, i + k < l → C0 * (EN N (M (i + k)) a).natAbs < C2 ^ k * N ^ 8 ∧ C0 * (EN N (M (i + k + 1)) a).natAbs < C2 ^ (k + 1) * N ^ 8 := by
      intro k
      induction k with
      | zero =>
        intro _
        exact ⟨Nat.lt_of_lt_of_le z1 (hpw 0), Nat.lt_of_lt_of_le z2 (hpw 1)⟩
      | succ k ih =>
        intro hk
        obtain ⟨y1, y2⟩ := ih (by omega)
        refine ⟨y2, ?_⟩
        obtain ⟨u, s, g1, g2, g3, g4⟩ := hrel a ha (i + k + 1) (by omega) (by omega)
        rw [Nat.add_sub_cancel] at g4
        have h3 : (EN N (M (i + k + 1 + 1)) a).natAbs ≤ Cq * (EN N (M (i + k + 1)) a).natAbs + C * (EN N (M (i + k)) a).natAbs := by
          have h4 : (u * EN N (M (i + k)) a).natAbs ≤ C * (EN N (M (i + k)) a).natAbs := natAbs_mul_le g3 (Nat.le_refl _)
          have h5 : (EN N (M (i + k + 1 + 1)) a).natAbs ≤ (s * EN N (M (i + k + 1 + 1)) a).natAbs := by
            rw [Int.natAbs_mul]
            exact Nat.le_mul_of_pos_left _ (by omega)
          omega
        show C0 * (EN N (M (i + k + 1 + 1)) a).natAbs < C2 ^ (k + 1 + 1) * N ^ 8
        have h6 : C0 * (EN N (M (i + k + 1 + 1)) a).natAbs ≤ Cq * (C0 * (EN N (M (i + k + 1)) a).natAbs) + C * (C0 * (EN N (M (i + k)) a).natAbs) := by
          refine Nat.le_trans (Nat.mul_le_mul_left _ h3) ?_
          rw [Nat.mul_add, Nat.mul_left_comm, Nat.mul_left_comm C0 C]
          exact Nat.le_refl _
        have h7 : Cq * (C0 * (EN N (M (i + k + 1)) a).natAbs) ≤ Cq * (C2 ^ (k + 1) * N ^ 8) := Nat.mul_le_mul_left _ (Nat.le_of_lt y2)
        have h8 : C * (C0 * (EN N (M (i + k)) a).natAbs) ≤ C * (C2 ^ (k + 1) * N ^ 8) := Nat.mul_le_mul_left _ (Nat.le_trans (Nat.le_of_lt y1) (Nat.mul_le_mul_right _ (Nat.pow_le_pow_right hC21 (by omega))))
        have h9' : 0 < C2 ^ (k + 1) * N ^ 8 := Nat.mul_pos (Nat.pow_pos hC21) (Nat.pow_pos hN1)
        have h10 : C2 ^ (k + 1 + 1) * N ^ 8 = Cq * (C2 ^ (k + 1) * N ^ 8) + C * (C2 ^ (k + 1) * N ^ 8) + C2 ^ (k + 1) * N ^ 8 := by
          rw [Nat.pow_succ C2 (k + 1), hC2]
          generalize (Cq + C + 1) ^ (k + 1) = P
          generalize N ^ 8 = R
          grind
        omega
    obtain ⟨y1, y2⟩ := go (l - 1 - i) (by omega)
    rw [show i + (l - 1 - i) + 1 = l by omega] at y2
    have h3 : C0 * N ^ 8 ≤ C0 * (EN N (M l) a).natAbs := Nat.mul_le_mul_left _ (hEl a)
    have h4 : C2 ^ (l - 1 - i + 1) * N ^ 8 ≤ C0 * N ^ 8 := by
      rw [hC0]
      exact Nat.mul_le_mul_right _ (Nat.pow_le_pow_right hC21 (by omega))
    omega
  -- one step
  have step : ∀ a : Int, a.natAbs ≤ T * N → (a + 1).natAbs ≤ T * N → (sst (fun i => EN N (M i) (a + 1)) (l + 1)).1 ≤ (sst (fun i => EN N (M i) a) (l + 1)).1 := by
    intro a ha ha1
    refine st_step (sm := fun i => C1 * (EN N (M i) a).natAbs < N ^ 8) (fun i hi h => ?_) (fun i hi h => ?_) (fun i h1 h2 h => ?_) (fun h => ?_) ?_
    · refine htiny a ha i hi ⟨Nat.lt_of_le_of_lt (Nat.mul_le_mul_right _ hC10) h.1, Nat.lt_of_le_of_lt (Nat.mul_le_mul_right _ hC10) h.2⟩
    · have h3 : N ^ 8 ≤ C1 * (EN N (M i) a).natAbs := Nat.le_of_not_lt h
      have h4 := en_lip (N := N) hT1 ha ha1 (hX i (by omega))
      rw [← hK] at h4
      have h5 : C1 * (EN N (M i) (a + 1) - EN N (M i) a).natAbs < C1 * (EN N (M i) a).natAbs := by
        refine Nat.lt_of_lt_of_le ?_ h3
        refine Nat.lt_of_le_of_lt (Nat.mul_le_mul_left _ h4) ?_
        rw [hN8, ← Nat.mul_assoc]
        exact Nat.mul_lt_mul_of_pos_right (by omega) hN7
      have h6 := mul_lt_l h5
      exact ⟨by show EN N (M i) a ≠ 0; omega, sg_near h6⟩
    · obtain ⟨u, s, g1, g2, g3, g4⟩ := hrel a ha i h1 h2
      have hti : C0 * (EN N (M i) a).natAbs < N ^ 8 := Nat.lt_of_le_of_lt (Nat.mul_le_mul_right _ hC10) h
      have n1 : N ^ 8 ≤ C0 * (EN N (M (i + 1)) a).natAbs := Nat.le_of_not_lt (fun z => htiny a ha i h2 ⟨hti, z⟩)
      have n0 : N ^ 8 ≤ C0 * (EN N (M (i - 1)) a).natAbs := Nat.le_of_not_lt (fun z => htiny a ha (i - 1) (by omega) ⟨z, by rw [show i - 1 + 1 = i by omega]; exact hti⟩)
      have h3 : C0 * (Cq * (EN N (M i) a).natAbs) < N ^ 8 := by
        refine Nat.lt_of_le_of_lt ?_ h
        rw [hC1, ← Nat.mul_assoc, Nat.mul_comm C0 Cq]
        exact Nat.mul_le_mul_right _ (Nat.mul_le_mul_right _ (by omega))
      have h4 : Cq * (EN N (M i) a).natAbs < (EN N (M (i + 1)) a).natAbs := mul_lt_l (Nat.lt_of_lt_of_le h3 n1)
      have h0 : EN N (M (i - 1)) a ≠ 0 := fun e => by
        rw [e] at n0
        have : 0 < N ^ 8 := Nat.pow_pos hN1
        simp at n0
        omega
      show EN N (M (i - 1)) a * EN N (M (i + 1)) a < 0
      generalize EN N (M (i - 1)) a = A at *
      generalize EN N (M (i + 1)) a = B at *
      generalize Cq * (EN N (M i) a).natAbs = Z at *
      have hsB : B.natAbs ≤ (s * B).natAbs := by
        rw [Int.natAbs_mul]
        exact Nat.le_mul_of_pos_left _ (by omega)
      rcases Int.lt_or_gt_of_ne h0 with eA | eA
      · rcases Int.lt_trichotomy B 0 with eB | eB | eB
        · exfalso
          have k1 := Int.mul_neg_of_pos_of_neg g1 eA
          have k2 := Int.mul_neg_of_pos_of_neg g2 eB
          omega
        · omega
        · exact Int.mul_neg_of_neg_of_pos eA eB
      · rcases Int.lt_trichotomy B 0 with eB | eB | eB
        · exact Int.mul_neg_of_pos_of_neg eA eB
        · omega
        · exfalso
          have k1 := Int.mul_pos g1 eA
          have k2 := Int.mul_pos g2 eB
          omega
    · have hti : C0 * (EN N (M 0) a).natAbs < N ^ 8 := Nat.lt_of_le_of_lt (Nat.mul_le_mul_right _ hC10) h
      have n1 : N ^ 8 ≤ C0 * (EN N (M 1) a).natAbs := Nat.le_of_not_lt (fun z => htiny a ha 0 (by omega) ⟨hti, z⟩)
      have h3 := en_slope (N := N) (h9 0 (Nat.zero_le _)) hT1 ha ha1 (hX 0 (by omega))
      rw [← hK2] at h3
      have h4 : s1 * EN N (M 1) a = t1 * EN N (dv (M 0)) a := by
        rw [← en_mul, ← en_mul, show (fun m => s1 * M 1 m) = (fun m => t1 * dv (M 0) m) from funext hDr]
      have h5 : N ^ 8 ≤ C0 * t1.natAbs * (EN N (dv (M 0)) a).natAbs := by
        have h6 := congrArg Int.natAbs h4
        rw [Int.natAbs_mul, Int.natAbs_mul] at h6
        have h7 : (EN N (M 1) a).natAbs ≤ s1.natAbs * (EN N (M 1) a).natAbs := Nat.le_mul_of_pos_left _ (by omega)
        rw [h6] at h7
        refine Nat.le_trans n1 ?_
        rw [Nat.mul_assoc]
        exact Nat.mul_le_mul_left _ h7
      have h6 : ((N : Int) * (EN N (M 0) (a + 1) - EN N (M 0) a) - EN N (dv (M 0)) a).natAbs < (EN N (dv (M 0)) a).natAbs := by
        refine mul_lt_l (c := C0 * t1.natAbs) (Nat.lt_of_lt_of_le ?_ h5)
        refine Nat.lt_of_le_of_lt (Nat.mul_le_mul_left _ h3) ?_
        rw [hN8, ← Nat.mul_assoc]
        exact Nat.mul_lt_mul_of_pos_right (by omega) hN7
      have h7 := sg_near h6
      have h8 : sg32 (EN N (M 1) a) = sg32 (EN N (dv (M 0)) a) := sg_pp hs1 ht1 h4
      show 0 ≤ EN N (M 1) a * (EN N (M 0) (a + 1) - EN N (M 0) a)
      generalize EN N (M 0) (a + 1) - EN N (M 0) a = Z at *
      have h9' : sg32 ((N : Int) * Z) = sg32 Z := (sg_pp (s := (N : Int)) (t := 1) (by omega) (by omega) (by rw [Int.one_mul])).symm
      rcases Int.lt_or_le (EN N (M 1) a * Z) 0 with e | e
      · exfalso
        rw [sg_cmp] at e
        exact e.2.2 (by rw [h8, ← h7, h9'])
      · exact e
    · intro h
      have h3 := hEl a
      have h4 : (EN N (M l) a).natAbs ≤ C1 * (EN N (M l) a).natAbs := Nat.le_mul_of_pos_left _ (by omega)
      omega
  -- many steps
  have many : ∀ m : Nat, p * N + m ≤ t0 * N → (sst (fun i => EN N (M i) (p * N + m)) (l + 1)).1 ≤ (sst (fun i => EN N (M i) (p * N)) (l + 1)).1 := by
    intro m
    have hb : ∀ b : Int, p * N ≤ b → b ≤ t0 * N → b.natAbs ≤ T * N := by
      intro b hb1 hb2
      have k1 : (p * (N : Int)).natAbs ≤ T * N := by
        rw [Int.natAbs_mul, Int.natAbs_natCast]
        exact Nat.mul_le_mul_right _ (by omega)
      have k2 : (t0 * (N : Int)).natAbs ≤ T * N := by
        rw [Int.natAbs_mul, Int.natAbs_natCast]
        exact Nat.mul_le_mul_right _ (by omega)
      omega
    induction m with
    | zero =>
      intro _
      rw [show p * (N : Int) + ((0 : Nat) : Int) = p * N by omega]
      exact Nat.le_refl _
    | succ m ih =>
      intro hm
      have h1 := ih (by omega)
      have h2 := step (p * N + m) (hb _ (by omega) (by omega)) (hb _ (by omega) (by omega))
      rw [show p * (N : Int) + ((m + 1 : Nat) : Int) = p * N + m + 1 by omega]
      exact Nat.le_trans h2 h1
  have hmono : p * (N : Int) ≤ t0 * N := Int.mul_le_mul_of_nonneg_right ht0.2 (by omega)
  have hfin := many (t0 * N - p * N).toNat (by omega)
  rw [show p * (N : Int) + ((t0 * (N : Int) - p * N).toNat : Int) = t0 * N by omega] at hfin
  -- at whole points
  have hint : ∀ x : Int, (sst (fun i => EN N (M i) (x * N)) (l + 1)).1 = cAt M l x := fun x => by
    refine (sst_sg (e := 1) (Or.inl rfl) (l := l) (fun i hi => ?_) (l + 1) (Nat.le_refl _)).1
    rw [Int.one_mul, en_int, vat_hs (h9 i hi)]
    exact (sg_pp (s := (N : Int) ^ 8) (t := 1) (Int.pow_pos (by omega)) (by omega) (by rw [Int.one_mul])).symm
  rw [hint, hint] at hfin
  have hfar : cAt M l t0 = cFar M l false := by
    refine (sst_sg (e := 1) (Or.inl rfl) (l := l) (fun i hi => ?_) (l + 1) (Nat.le_refl _)).1
    rw [Int.one_mul, vat_hs (h9 i hi), far_sg (h9 i hi) (hS.1 i hi).1 (hX i (by omega)) ht0.1]
    unfold vFar
    rw [if_neg (fun h => absurd h.1 (by decide))]
  rw [hfar] at hfin
  exact hfin
