/-! MATHEMATICS: how the number of changes falls from left to right -/
theorem s1_k {v : Nat → Int} {k : Nat} (h : v k ≠ 0) : (sst v (k + 1)).2 = v k := by
  rw [sst_s]
  show (if v k = 0 then _ else _) = _
  rw [if_neg h]
theorem s1_c (v : Nat → Int) (k : Nat) : (sst v (k + 1)).1 = if v k * (sst v k).2 < 0 then (sst v k).1 + 1 else (sst v k).1 := rfl
/-- from a over b to c, whose sign is the other: one change -/
theorem s2_c {v : Nat → Int} {k : Nat} (h0 : (sst v (k + 1)).2 * v (k + 2) < 0) : (sst v (k + 3)).1 = (sst v (k + 1)).1 + 1 := by
  have hc : v (k + 2) ≠ 0 := fun e => by rw [e, Int.mul_zero] at h0; omega
  have ha : (sst v (k + 1)).2 ≠ 0 := fun e => by rw [e, Int.zero_mul] at h0; omega
  rw [s1_c v (k + 2), s1_c v (k + 1)]
  have h2 : (sst v (k + 2)).2 = if v (k + 1) = 0 then (sst v (k + 1)).2 else v (k + 1) := rfl
  rw [h2]
  generalize (sst v (k + 1)).2 = a at *
  generalize (sst v (k + 1)).1 = n
  generalize v (k + 1) = b at *
  generalize v (k + 2) = c at *
  have h3 : c * a < 0 := by rw [Int.mul_comm]; exact h0
  by_cases e : b = 0
  · subst e
    rw [if_pos rfl, Int.zero_mul, if_pos h3, if_neg (by omega)]
  · rw [if_neg e]
    rw [sg_cmp] at h0
    by_cases e2 : b * a < 0
    · rw [if_pos e2]
      have : ¬ c * b < 0 := by
        intro h4
        rw [sg_cmp] at h4 e2
        rcases sg32_val a with ⟨_, a2⟩ | ⟨_, a2⟩ | ⟨_, a2⟩ <;> rcases sg32_val b with ⟨_, b2⟩ | ⟨_, b2⟩ | ⟨_, b2⟩ <;> rcases sg32_val c with ⟨_, c2⟩ | ⟨_, c2⟩ | ⟨_, c2⟩ <;> rw [a2, b2] at e2 <;> rw [b2, c2] at h4 <;> rw [a2, c2] at h0 <;> first | exact h0.1 rfl | exact h0.2.1 rfl | exact h0.2.2 rfl | exact h4.1 rfl | exact h4.2.1 rfl | exact h4.2.2 rfl | exact e2.1 rfl | exact e2.2.1 rfl | exact e2.2.2 rfl
      rw [if_neg this]
    · rw [if_neg e2]
      have : c * b < 0 := by
        rw [sg_cmp] at e2 ⊢
        have hb0 : sg32 b ≠ 0 := fun z => e (sg32_eq0.mp z)
        refine ⟨h0.2.1, hb0, fun h4 => e2 ⟨hb0, h0.1, fun h5 => h0.2.2 (by rw [← h5, h4])⟩⟩
      rw [if_pos this]
/-- the step from one point to the next -/
theorem st_step {v w : Nat → Int} {l : Nat} {sm : Nat → Prop} (h1 : ∀ i, i < l → ¬ (sm i ∧ sm (i + 1))) (h2 : ∀ i, i ≤ l → ¬ sm i → v i ≠ 0 ∧ sg32 (w i) = sg32 (v i)) (h3 : ∀ i, 1 ≤ i → i < l → sm i → v (i - 1) * v (i + 1) < 0) (h4 : sm 0 → 0 ≤ v 1 * (w 0 - v 0)) (h5 : ¬ sm l) :
    (sst w (l + 1)).1 ≤ (sst v (l + 1)).1 := by
  have key : ∀ k, k ≤ l → ¬ sm k → (sst w (k + 1)).1 ≤ (sst v (k + 1)).1 := by
    intro k
    induction k using Nat.strongRecOn with
    | _ k ih =>
      intro hk hs
      obtain ⟨n1, n2⟩ := h2 k hk hs
      rcases Nat.eq_zero_or_pos k with e | e
      · subst e
        rw [s1_c, s1_c]
        show (if w 0 * (0 : Int) < 0 then _ else _) ≤ (if v 0 * (0 : Int) < 0 then _ else _)
        rw [Int.mul_zero, Int.mul_zero, if_neg (by omega), if_neg (by omega)]
        exact Nat.le_refl _
      · obtain ⟨u, rfl⟩ : ∃ u, k = u + 1 := ⟨k - 1, by omega⟩
        by_cases hu : sm u
        · rcases Nat.eq_zero_or_pos u with e2 | e2
          · subst e2
            have h6 := h4 hu
            have c0 : ∀ z : Nat → Int, (sst z 1).1 = 0 := one_cnt
            have l0 : ∀ z : Nat → Int, (sst z 1).2 = z 0 := fun z => by
              rw [sst_s]
              show (if z 0 = 0 then (0 : Int) else z 0) = z 0
              by_cases e3 : z 0 = 0
              · rw [if_pos e3, e3]
              · rw [if_neg e3]
            show (sst w (1 + 1)).1 ≤ (sst v (1 + 1)).1
            rw [s1_c w 1, s1_c v 1, c0, c0, l0, l0]
            by_cases e4 : w 1 * w 0 < 0
            · rw [if_pos e4]
              have e5 : v 1 * v 0 < 0 := by
                have e6 : v 1 * w 0 < 0 := by
                  rw [sg_cmp] at e4 ⊢
                  have n2' : sg32 (w 1) = sg32 (v 1) := n2
                  rw [← n2']
                  exact e4
                have e7 : v 1 * (w 0 - v 0) = v 1 * w 0 - v 1 * v 0 := Int.mul_sub _ _ _
                omega
              rw [if_pos e5]
              exact Nat.le_refl _
            · rw [if_neg e4]
              exact Nat.zero_le _
          · obtain ⟨t, rfl⟩ : ∃ t, u = t + 1 := ⟨u - 1, by omega⟩
            have ht : ¬ sm t := fun z => h1 t (by omega) ⟨z, hu⟩
            obtain ⟨m1, m2⟩ := h2 t (by omega) ht
            have h6 := h3 (t + 1) (by omega) (by omega) hu
            rw [Nat.add_sub_cancel] at h6
            have i1 := ih t (by omega) (by omega) ht
            have w0 : w t ≠ 0 := fun e3 => by rw [e3] at m2; exact m1 (sg32_eq0.mp m2.symm)
            have a1 := s2_c (v := v) (k := t) (by rw [s1_k m1]; exact h6)
            have a2 := s2_c (v := w) (k := t) (by
              rw [s1_k w0]
              rw [sg_cmp] at h6 ⊢
              rw [m2, n2]
              exact h6)
            show (sst w (t + 3)).1 ≤ (sst v (t + 3)).1
            rw [a1, a2]
            omega
        · obtain ⟨m1, m2⟩ := h2 u (by omega) hu
          have w0 : w u ≠ 0 := fun e3 => by rw [e3] at m2; exact m1 (sg32_eq0.mp m2.symm)
          have i1 := ih u (by omega) (by omega) hu
          rw [s1_c w (u + 1), s1_c v (u + 1), s1_k m1, s1_k w0]
          have hc : w (u + 1) * w u < 0 ↔ v (u + 1) * v u < 0 := by rw [sg_cmp, sg_cmp, m2, n2]
          by_cases e4 : v (u + 1) * v u < 0
          · rw [if_pos e4, if_pos (hc.mpr e4)]
            omega
          · rw [if_neg e4, if_neg (fun z => e4 (hc.mp z))]
            exact i1
  exact key l (Nat.le_refl _) h5
/-- sums -/
def sm (g : Nat → Int) : Nat → Int
  | 0 => 0
  | n + 1 => sm g n + g n
theorem hs_sm (W : Row) (a : Int) (n : Nat) : hsum W a n 0 = sm (fun j => a ^ j * W j) n := by
  induction n with
  | zero => rfl
  | succ n ih =>
    rw [hs_snoc, ih, Nat.zero_add]
    rfl
theorem sm_bd {g : Nat → Int} {n : Nat} {B : Nat} (h : ∀ j, j < n → (g j).natAbs ≤ B) : (sm g n).natAbs ≤ n * B := by
  induction n with
  | zero => exact Nat.zero_le _
  | succ n ih =>
    show (sm g n + g n).natAbs ≤ _
    have h1 := ih (fun j hj => h j (by omega))
    have h2 := h n (by omega)
    have h3 := Int.natAbs_add_le (sm g n) (g n)
    rw [Nat.add_mul, Nat.one_mul]
    omega
theorem sm_congr {f g : Nat → Int} {n : Nat} (h : ∀ j, j < n → f j = g j) : sm f n = sm g n := by
  induction n with
  | zero => rfl
  | succ n ih =>
    show sm f n + f n = sm g n + g n
    rw [ih (fun j hj => h j (by omega)), h n (by omega)]
theorem sm_sub (f g : Nat → Int) (n : Nat) : sm f n - sm g n = sm (fun j => f j - g j) n := by
  induction n with
  | zero => rfl
  | succ n ih =>
    show sm f n + f n - (sm g n + g n) = sm (fun j => f j - g j) n + (f n - g n)
    rw [← ih]
    omega
theorem sm_mul (t : Int) (f : Nat → Int) (n : Nat) : t * sm f n = sm (fun j => t * f j) n := by
  induction n with
  | zero => exact Int.mul_zero t
  | succ n ih =>
    show t * (sm f n + f n) = sm (fun j => t * f j) n + t * f n
    rw [← ih, Int.mul_add]
theorem sm_sh (g : Nat → Int) (n : Nat) : sm g (n + 1) = g 0 + sm (fun j => g (j + 1)) n := by
  induction n with
  | zero => show (0 : Int) + g 0 = g 0 + 0; omega
  | succ n ih =>
    show sm g (n + 1) + g (n + 1) = g 0 + (sm (fun j => g (j + 1)) n + g (n + 1))
    rw [ih]
    omega
/-- N^8 times the value at a / N -/
def EN (N : Nat) (c : Row) (a : Int) : Int := hsum (fun j => c j * (N : Int) ^ (8 - j)) a 9 0
theorem en_sm (N : Nat) (c : Row) (a : Int) : EN N c a = sm (fun j => a ^ j * (c j * (N : Int) ^ (8 - j))) 9 := hs_sm _ _ _
theorem pw_abs {a : Int} {B j : Nat} (h : a.natAbs ≤ B) : (a ^ j).natAbs ≤ B ^ j := by
  rw [Int.natAbs_pow]
  exact Nat.pow_le_pow_left h j
theorem pw_tn {T N j k : Nat} (hT : 1 ≤ T) (hj : j ≤ k) : (T * N) ^ j * N ^ (k - j) ≤ T ^ k * N ^ k := by
  rw [Nat.mul_pow, Nat.mul_assoc, ← Nat.pow_add, show j + (k - j) = k by omega]
  exact Nat.mul_le_mul_right _ (Nat.pow_le_pow_right hT hj)
theorem en_bd {N T X : Nat} {c : Row} {a : Int} (hT : 1 ≤ T) (ha : a.natAbs ≤ T * N) (hc : ∀ j, (c j).natAbs ≤ X) : (EN N c a).natAbs ≤ 9 * (X * T ^ 8) * N ^ 8 := by
  rw [en_sm, Nat.mul_assoc]
  refine sm_bd (fun j hj => ?_)
  rw [Int.natAbs_mul, Int.natAbs_mul, Int.natAbs_pow, Int.natAbs_pow, Int.natAbs_natCast]
  have h1 : a.natAbs ^ j ≤ (T * N) ^ j := Nat.pow_le_pow_left ha j
  have h2 := pw_tn (N := N) hT (show j ≤ 8 by omega)
  calc a.natAbs ^ j * ((c j).natAbs * N ^ (8 - j)) ≤ (T * N) ^ j * (X * N ^ (8 - j)) := Nat.mul_le_mul h1 (Nat.mul_le_mul_right _ (hc j))
    _ = X * ((T * N) ^ j * N ^ (8 - j)) := by
      generalize (T * N) ^ j = P
      generalize N ^ (8 - j) = R
      grind
    _ ≤ X * (T ^ 8 * N ^ 8) := Nat.mul_le_mul_left _ h2
    _ = X * T ^ 8 * N ^ 8 := (Nat.mul_assoc _ _ _).symm
theorem pd1 {a : Int} {B : Nat} (h1 : a.natAbs ≤ B) (h2 : (a + 1).natAbs ≤ B) : ∀ j, ((a + 1) ^ (j + 1) - a ^ (j + 1)).natAbs ≤ (j + 1) * B ^ j := by
  intro j
  induction j with
  | zero =>
    rw [Int.pow_succ, Int.pow_zero, Int.pow_succ, Int.pow_zero, Nat.pow_zero]
    omega
  | succ j ih =>
    have e : (a + 1) ^ (j + 1 + 1) - a ^ (j + 1 + 1) = (a + 1) * ((a + 1) ^ (j + 1) - a ^ (j + 1)) + a ^ (j + 1) := by
      rw [Int.pow_succ (a + 1) (j + 1), Int.pow_succ a (j + 1)]
      generalize (a + 1) ^ (j + 1) = p
      generalize a ^ (j + 1) = q
      grind
    rw [e]
    have h3 : ((a + 1) * ((a + 1) ^ (j + 1) - a ^ (j + 1))).natAbs ≤ B * ((j + 1) * B ^ j) := natAbs_mul_le h2 ih
    have h4 : (a ^ (j + 1)).natAbs ≤ B ^ (j + 1) := pw_abs h1
    have h5 := Int.natAbs_add_le ((a + 1) * ((a + 1) ^ (j + 1) - a ^ (j + 1))) (a ^ (j + 1))
    have h6 : B * ((j + 1) * B ^ j) + B ^ (j + 1) = (j + 1 + 1) * B ^ (j + 1) := by
      rw [Nat.pow_succ]
      generalize B ^ j = P
      grind
    omega
theorem pd2 {a : Int} {B : Nat} (h1 : a.natAbs ≤ B) (h2 : (a + 1).natAbs ≤ B) : ∀ j : Nat, ((a + 1) ^ (j + 2) - a ^ (j + 2) - ((j : Int) + 2) * a ^ (j + 1)).natAbs ≤ (j + 2) * (j + 2) * B ^ j := by
  intro j
  induction j with
  | zero =>
    have e : (a + 1) ^ (0 + 2) - a ^ (0 + 2) - ((0 : Nat) + 2 : Int) * a ^ (0 + 1) = 1 := by
      show (a + 1) ^ 2 - a ^ 2 - _ * a ^ 1 = 1
      grind
    rw [e]
    show 1 ≤ _
    rw [Nat.pow_zero]
    omega
  | succ j ih =>
    have e : (a + 1) ^ (j + 1 + 2) - a ^ (j + 1 + 2) - (((j + 1 : Nat) : Int) + 2) * a ^ (j + 1 + 1) = (a + 1) * ((a + 1) ^ (j + 2) - a ^ (j + 2) - ((j : Int) + 2) * a ^ (j + 1)) + ((j : Int) + 2) * a ^ (j + 1) := by
      have p1 : (a + 1) ^ (j + 1 + 2) = (a + 1) ^ (j + 2) * (a + 1) := Int.pow_succ _ _
      have p2 : a ^ (j + 1 + 2) = a ^ (j + 1) * a * a := by rw [show j + 1 + 2 = j + 1 + 1 + 1 by omega, Int.pow_succ, Int.pow_succ]
      have p3 : a ^ (j + 1 + 1) = a ^ (j + 1) * a := Int.pow_succ _ _
      have p4 : a ^ (j + 2) = a ^ (j + 1) * a := Int.pow_succ _ _
      rw [p1, p2, p3, show ((j + 1 : Nat) : Int) = (j : Int) + 1 by omega]
      generalize (a + 1) ^ (j + 2) = p
      generalize a ^ (j + 1) = q
      grind
    rw [e]
    have h3 : ((a + 1) * ((a + 1) ^ (j + 2) - a ^ (j + 2) - ((j : Int) + 2) * a ^ (j + 1))).natAbs ≤ B * ((j + 2) * (j + 2) * B ^ j) := natAbs_mul_le h2 ih
    have h4 : (((j : Int) + 2) * a ^ (j + 1)).natAbs ≤ (j + 2) * B ^ (j + 1) := natAbs_mul_le (by omega) (pw_abs h1)
    have h5 := Int.natAbs_add_le ((a + 1) * ((a + 1) ^ (j + 2) - a ^ (j + 2) - ((j : Int) + 2) * a ^ (j + 1))) (((j : Int) + 2) * a ^ (j + 1))
    have h6 : B * ((j + 2) * (j + 2) * B ^ j) + (j + 2) * B ^ (j + 1) ≤ (j + 1 + 2) * (j + 1 + 2) * B ^ (j + 1) := by
      rw [Nat.pow_succ]
      generalize B ^ j = P
      have e7 : B * ((j + 2) * (j + 2) * P) + (j + 2) * (P * B) = ((j + 2) * (j + 2) + (j + 2)) * (P * B) := by grind
      rw [e7]
      refine Nat.mul_le_mul_right _ ?_
      have e8 : (j + 1 + 2) * (j + 1 + 2) = (j + 2) * (j + 2) + (j + 2) + (j + 3) := by grind
      omega
    omega
/-- how far the value goes in one step -/
theorem en_lip {N T X : Nat} {c : Row} {a : Int} (hT : 1 ≤ T) (ha : a.natAbs ≤ T * N) (ha1 : (a + 1).natAbs ≤ T * N) (hc : ∀ j, (c j).natAbs ≤ X) : (EN N c (a + 1) - EN N c a).natAbs ≤ 9 * (8 * (X * T ^ 7)) * N ^ 7 := by
  rw [en_sm, en_sm, sm_sub, Nat.mul_assoc]
  refine sm_bd (fun j hj => ?_)
  rcases Nat.eq_zero_or_pos j with e | e
  · subst e
    rw [Int.pow_zero, Int.pow_zero, Int.sub_self]
    exact Nat.zero_le _
  · obtain ⟨i, rfl⟩ : ∃ i, j = i + 1 := ⟨j - 1, by omega⟩
    rw [← Int.sub_mul, Int.natAbs_mul, Int.natAbs_mul, Int.natAbs_pow, Int.natAbs_natCast]
    have h1 := pd1 ha ha1 i
    have h2 := pw_tn (N := N) hT (show i ≤ 7 by omega)
    rw [show 8 - (i + 1) = 7 - i by omega]
    calc ((a + 1) ^ (i + 1) - a ^ (i + 1)).natAbs * ((c (i + 1)).natAbs * N ^ (7 - i)) ≤ ((i + 1) * (T * N) ^ i) * (X * N ^ (7 - i)) := Nat.mul_le_mul h1 (Nat.mul_le_mul_right _ (hc _))
      _ = (i + 1) * (X * ((T * N) ^ i * N ^ (7 - i))) := by
        generalize (T * N) ^ i = P
        generalize N ^ (7 - i) = R
        grind
      _ ≤ 8 * (X * (T ^ 7 * N ^ 7)) := Nat.mul_le_mul (by omega) (Nat.mul_le_mul_left _ h2)
      _ = 8 * (X * T ^ 7) * N ^ 7 := by
        generalize T ^ 7 = P
        generalize N ^ 7 = R
        grind
/-- the slope, in one step -/
theorem en_slope {N T X : Nat} {c : Row} {a : Int} (h9 : ∀ j, 9 ≤ j → c j = 0) (hT : 1 ≤ T) (ha : a.natAbs ≤ T * N) (ha1 : (a + 1).natAbs ≤ T * N) (hc : ∀ j, (c j).natAbs ≤ X) : ((N : Int) * (EN N c (a + 1) - EN N c a) - EN N (dv c) a).natAbs ≤ 9 * (64 * (X * T ^ 7)) * N ^ 7 := by
  have e1 : EN N (dv c) a = sm (fun j => ((j : Int)) * a ^ (j - 1) * (c j * (N : Int) ^ (9 - j))) 9 := by
    have e2 := sm_sh (fun j => ((j : Int)) * a ^ (j - 1) * (c j * (N : Int) ^ (9 - j))) 9
    have e3 : sm (fun j => ((j : Int)) * a ^ (j - 1) * (c j * (N : Int) ^ (9 - j))) (9 + 1) = sm (fun j => ((j : Int)) * a ^ (j - 1) * (c j * (N : Int) ^ (9 - j))) 9 := by
      show sm (fun j => ((j : Int)) * a ^ (j - 1) * (c j * (N : Int) ^ (9 - j))) 9 + ((9 : Nat) : Int) * a ^ (9 - 1) * (c 9 * (N : Int) ^ (9 - 9)) = _
      rw [h9 9 (by omega), Int.zero_mul, Int.mul_zero, Int.add_zero]
    rw [e3] at e2
    rw [e2, en_sm]
    show _ = ((0 : Nat) : Int) * _ * _ + _
    rw [show ((0 : Nat) : Int) = 0 from rfl, Int.zero_mul, Int.zero_mul, Int.zero_add]
    refine sm_congr (fun j hj => ?_)
    show a ^ j * (dv c j * (N : Int) ^ (8 - j)) = ((j + 1 : Nat) : Int) * a ^ (j + 1 - 1) * (c (j + 1) * (N : Int) ^ (9 - (j + 1)))
    rw [Nat.add_sub_cancel, show 9 - (j + 1) = 8 - j by omega, show ((j + 1 : Nat) : Int) = (j : Int) + 1 by omega]
    unfold dv
    generalize a ^ j = p
    generalize (N : Int) ^ (8 - j) = r
    grind
  rw [e1, en_sm, en_sm, sm_sub, sm_mul, sm_sub, Nat.mul_assoc]
  refine sm_bd (fun j hj => ?_)
  have hN : (N : Int) ^ (9 - j) = (N : Int) ^ (8 - j) * N := by rw [show 9 - j = 8 - j + 1 by omega, Int.pow_succ]
  rcases (show j = 0 ∨ j = 1 ∨ 2 ≤ j by omega) with e | e | e
  · subst e
    rw [Int.pow_zero, Int.pow_zero, Int.sub_self, Int.mul_zero, show ((0 : Nat) : Int) = 0 from rfl, Int.zero_mul, Int.zero_mul]
    exact Nat.zero_le _
  · subst e
    have : (N : Int) * ((a + 1) ^ 1 * (c 1 * (N : Int) ^ (8 - 1)) - a ^ 1 * (c 1 * (N : Int) ^ (8 - 1))) - ((1 : Nat) : Int) * a ^ (1 - 1) * (c 1 * (N : Int) ^ (9 - 1)) = 0 := by
      rw [hN, show a ^ (1 - 1) = 1 from Int.pow_zero a, show ((1 : Nat) : Int) = 1 from rfl]
      generalize (N : Int) ^ (8 - 1) = r
      grind
    rw [this]
    exact Nat.zero_le _
  · obtain ⟨i, rfl⟩ : ∃ i, j = i + 2 := ⟨j - 2, by omega⟩
    have h1 := pd2 ha ha1 i
    have h2 := pw_tn (N := N) hT (show i ≤ 7 by omega)
    have e4 : (N : Int) * ((a + 1) ^ (i + 2) * (c (i + 2) * (N : Int) ^ (8 - (i + 2))) - a ^ (i + 2) * (c (i + 2) * (N : Int) ^ (8 - (i + 2)))) - ((i + 2 : Nat) : Int) * a ^ (i + 2 - 1) * (c (i + 2) * (N : Int) ^ (9 - (i + 2))) = ((a + 1) ^ (i + 2) - a ^ (i + 2) - ((i : Int) + 2) * a ^ (i + 1)) * (c (i + 2) * (N : Int) ^ (9 - (i + 2))) := by
      rw [hN, show i + 2 - 1 = i + 1 by omega, show ((i + 2 : Nat) : Int) = (i : Int) + 2 by omega]
      generalize (a + 1) ^ (i + 2) = p
      generalize a ^ (i + 2) = q
      generalize a ^ (i + 1) = s
      generalize (N : Int) ^ (8 - (i + 2)) = r
      grind
    rw [e4, Int.natAbs_mul, Int.natAbs_mul, Int.natAbs_pow, Int.natAbs_natCast, show 9 - (i + 2) = 7 - i by omega]
    have h3 : (i + 2) * (i + 2) ≤ 64 := Nat.mul_le_mul (show i + 2 ≤ 8 by omega) (show i + 2 ≤ 8 by omega)
    calc ((a + 1) ^ (i + 2) - a ^ (i + 2) - ((i : Int) + 2) * a ^ (i + 1)).natAbs * ((c (i + 2)).natAbs * N ^ (7 - i)) ≤ ((i + 2) * (i + 2) * (T * N) ^ i) * (X * N ^ (7 - i)) := Nat.mul_le_mul h1 (Nat.mul_le_mul_right _ (hc _))
      _ = (i + 2) * (i + 2) * (X * ((T * N) ^ i * N ^ (7 - i))) := by
        generalize (T * N) ^ i = P
        generalize N ^ (7 - i) = R
        grind
      _ ≤ 64 * (X * (T ^ 7 * N ^ 7)) := Nat.mul_le_mul h3 (Nat.mul_le_mul_left _ h2)
      _ = 64 * (X * T ^ 7) * N ^ 7 := by
        generalize T ^ 7 = P
        generalize N ^ 7 = R
        grind
