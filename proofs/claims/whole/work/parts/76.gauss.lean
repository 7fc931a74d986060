/-! MATHEMATICS: products, divisors, Gauss' lemma -/
theorem pm_top {q G : Row} {n d e : Nat} (hq : ∀ i, d < i → i < n → q i = 0) (hG : ∀ i, e < i → G i = 0) {m : Nat} (hm : d + e < m) : pm q G n m = 0 := by
  induction n with
  | zero => rfl
  | succ n ih =>
    rw [pm_s, ih (fun i h1 h2 => hq i h1 (by omega)), Int.zero_add]
    split
    · rcases Nat.lt_or_ge d n with h | h
      · rw [hq n h (by omega), Int.zero_mul]
      · rw [hG (m - n) (by omega), Int.mul_zero]
    · rfl
theorem pm_lead {q G : Row} {n d e : Nat} (hd : d < n) (hq : ∀ i, d < i → i < n → q i = 0) (hG : ∀ i, e < i → G i = 0) : pm q G n (d + e) = q d * G e := by
  induction n with
  | zero => omega
  | succ n ih =>
    rw [pm_s]
    rcases Nat.eq_or_lt_of_le (Nat.le_of_lt_succ hd) with h | h
    · subst h
      rw [if_pos (by omega), show d + e - d = e by omega]
      have : pm q G d (d + e) = 0 := by
        rcases Nat.eq_zero_or_pos d with z | z
        · subst z; rfl
        · exact pm_top (d := d - 1) (e := e) (fun i h1 h2 => absurd h1 (by omega)) hG (by omega)
      rw [this, Int.zero_add]
    · rw [ih h (fun i h1 h2 => hq i h1 (by omega)), hq n h (by omega), Int.zero_mul, ite_self, Int.add_zero]
theorem pm_shf (q G : Row) (k n m : Nat) : shf k (fun x => pm q G n x) m = pm (shf k q) G (n + k) m := by
  induction n with
  | zero =>
    have : ∀ j, j ≤ k → pm (shf k q) G j m = 0 := by
      intro j
      induction j with
      | zero => intro _; rfl
      | succ j ih =>
        intro hj
        rw [pm_s, ih (by omega)]
        have : shf k q j = 0 := by unfold shf; rw [if_neg (by omega)]
        rw [this, Int.zero_mul, ite_self]
        rfl
    rw [Nat.zero_add, this k (Nat.le_refl _)]
    unfold shf
    split <;> rfl
  | succ n ih =>
    rw [show n + 1 + k = (n + k) + 1 by omega, pm_s, ← ih]
    unfold shf
    dsimp only
    by_cases e : k ≤ m
    · rw [if_pos e, if_pos e, pm_s, if_pos (show k ≤ n + k by omega), Nat.add_sub_cancel]
      by_cases e2 : n ≤ m - k
      · rw [if_pos e2, if_pos (by omega), show m - k - n = m - (n + k) by omega]
      · rw [if_neg e2, if_neg (by omega)]
    · rw [if_neg e, if_neg e, if_neg (by omega)]
      rfl
theorem pm_add (q r G : Row) (n m : Nat) : pm (fun i => q i + r i) G n m = pm q G n m + pm r G n m := by
  induction n with
  | zero => rfl
  | succ n ih =>
    rw [pm_s, pm_s, pm_s, ih]
    split
    · rw [Int.add_mul]; omega
    · omega
theorem pm_mul (t : Int) (q G : Row) (n m : Nat) : pm (fun i => t * q i) G n m = t * pm q G n m := by
  induction n with
  | zero => exact (Int.mul_zero t).symm
  | succ n ih =>
    rw [pm_s, pm_s, ih, Int.mul_add]
    split
    · rw [Int.mul_assoc]
    · rw [Int.mul_zero]
theorem pm_mulR (t : Int) (q G : Row) (n m : Nat) : pm q (fun i => t * G i) n m = t * pm q G n m := by
  induction n with
  | zero => exact (Int.mul_zero t).symm
  | succ n ih =>
    rw [pm_s, pm_s, ih, Int.mul_add]
    split
    · rw [Int.mul_left_comm]
    · rw [Int.mul_zero]
theorem pm_congr {q r G : Row} {n m : Nat} (h : ∀ i, i < n → q i = r i) : pm q G n m = pm r G n m := by
  induction n with
  | zero => rfl
  | succ n ih => rw [pm_s, pm_s, ih (fun i hi => h i (by omega)), h n (by omega)]
/-- G divides P -/
def Dv (G P : Row) : Prop := ∃ (q : Row) (n : Nat), (∀ i, n ≤ i → q i = 0) ∧ ∀ m, P m = pm q G n m
theorem Dv.of {G P q : Row} {n : Nat} (h : ∀ m, P m = pm q G n m) : Dv G P :=
  ⟨fun i => if i < n then q i else 0, n, fun i hi => if_neg (by omega), fun m => by rw [h m]; exact pm_congr (fun i hi => (if_pos hi).symm)⟩
theorem Dv.add {G P Q : Row} (h1 : Dv G P) (h2 : Dv G Q) : Dv G (fun m => P m + Q m) := by
  obtain ⟨q, n, hq, hp⟩ := h1
  obtain ⟨r, k, hr, hp2⟩ := h2
  refine ⟨fun i => q i + r i, max n k, fun i hi => by show q i + r i = 0; rw [hq i (by omega), hr i (by omega)]; rfl, fun m => ?_⟩
  rw [pm_add, pm_ext (n := n) (by omega) hq, pm_ext (n := k) (by omega) hr, ← hp, ← hp2]
theorem Dv.mul {G P : Row} (t : Int) (h1 : Dv G P) : Dv G (fun m => t * P m) := by
  obtain ⟨q, n, hq, hp⟩ := h1
  exact ⟨fun i => t * q i, n, fun i hi => by show t * q i = 0; rw [hq i hi, Int.mul_zero], fun m => by rw [pm_mul, ← hp]⟩
theorem dv_shf {G P : Row} (k : Nat) (h1 : Dv G P) : Dv G (shf k P) := by
  obtain ⟨q, n, hq, hp⟩ := h1
  refine Dv.of (q := shf k q) (n := n + k) (fun m => ?_)
  rw [← pm_shf]
  congr 1
  exact funext hp
theorem Dv.zero (G : Row) : Dv G (fun _ => 0) := ⟨fun _ => 0, 0, fun _ _ => rfl, fun _ => rfl⟩
theorem dv_pm {G P : Row} (q : Row) (n : Nat) (h1 : Dv G P) : Dv G (fun m => pm q P n m) := by
  induction n with
  | zero => exact Dv.zero G
  | succ n ih =>
    have h2 := ih.add ((dv_shf n h1).mul (q n))
    refine (funext (fun m => ?_) : (fun m => pm q P (n + 1) m) = _) ▸ h2
    rw [pm_s]
    unfold shf
    split
    · rfl
    · rw [Int.mul_zero]
theorem Dv.self (G : Row) : Dv G G := Dv.of (q := fun _ => 1) (n := 1) (fun m => by
  show G m = 0 + (if 0 ≤ m then 1 * G (m - 0) else 0)
  rw [if_pos (Nat.zero_le _), Int.one_mul, Nat.sub_zero, Int.zero_add])
/-- a prime: it divides one of two factors -/
def Pm (p : Nat) : Prop := 2 ≤ p ∧ ∀ a b : Int, (p : Int) ∣ a * b → (p : Int) ∣ a ∨ (p : Int) ∣ b
theorem ex_prime {n : Nat} (hn : 2 ≤ n) : ∃ p, Pm p ∧ p ∣ n := by
  have h0 : ∃ p, 2 ≤ p ∧ p ∣ n := ⟨n, hn, Nat.dvd_refl _⟩
  have hmin : ∀ k, (∃ p, p ≤ k ∧ 2 ≤ p ∧ p ∣ n) → ∃ p, 2 ≤ p ∧ p ∣ n ∧ ∀ d, 2 ≤ d → d ∣ n → p ≤ d := by
    intro k
    induction k with
    | zero => rintro ⟨p, h1, h2, _⟩; omega
    | succ k ih =>
      rintro ⟨p, h1, h2, h3⟩
      by_cases h : ∃ p, p ≤ k ∧ 2 ≤ p ∧ p ∣ n
      · exact ih h
      · refine ⟨p, h2, h3, fun d hd1 hd2 => ?_⟩
        rcases Nat.lt_or_ge k d with e | e
        · omega
        · exact absurd ⟨d, e, hd1, hd2⟩ h
  obtain ⟨p, hp1, hp2, hp3⟩ := hmin n ⟨n, Nat.le_refl _, hn, Nat.dvd_refl _⟩
  refine ⟨p, ⟨hp1, fun a b hab => ?_⟩, hp2⟩
  have hab2 : p ∣ a.natAbs * b.natAbs := by
    rw [← Int.natAbs_mul]
    exact Int.ofNat_dvd_left.mp hab
  have hg1 : Nat.gcd p a.natAbs ∣ p := Nat.gcd_dvd_left _ _
  have hg0 : 0 < Nat.gcd p a.natAbs := Nat.gcd_pos_of_pos_left _ (by omega)
  rcases Nat.eq_or_lt_of_le hg0 with e | e
  · right
    exact Int.ofNat_dvd_left.mpr (Nat.Coprime.dvd_of_dvd_mul_left (k := p) (m := a.natAbs) e.symm hab2)
  · left
    have h1 := hp3 _ e (Nat.dvd_trans hg1 hp2)
    have h2 := Nat.le_of_dvd (by omega) hg1
    have h3 : Nat.gcd p a.natAbs = p := by omega
    exact Int.ofNat_dvd_left.mpr (h3 ▸ Nat.gcd_dvd_right p a.natAbs)
theorem least {Pd : Nat → Prop} {n : Nat} (h : Pd n) : ∃ k, Pd k ∧ ∀ j, j < k → ¬ Pd j := by
  induction n using Nat.strongRecOn with
  | _ n ih =>
    by_cases h2 : ∃ j, j < n ∧ Pd j
    · obtain ⟨j, h3, h4⟩ := h2
      exact ih j h3 h4
    · exact ⟨n, h, fun j hj hp => h2 ⟨j, hj, hp⟩⟩
theorem gauss_p {p : Nat} (hp : Pm p) {q G : Row} {n : Nat} (hG : ∃ i, ¬ (p : Int) ∣ G i) (h : ∀ m, (p : Int) ∣ pm q G n m) (j : Nat) (hj : j < n) : (p : Int) ∣ q j := by
  by_cases hx : (p : Int) ∣ q j
  · exact hx
  obtain ⟨i0', hi0'⟩ := hG
  obtain ⟨i0, hi0, hmin⟩ := least (Pd := fun i => ¬ (p : Int) ∣ G i) hi0'
  obtain ⟨j0, ⟨hj0n, hj0⟩, hminj⟩ := least (Pd := fun j => j < n ∧ ¬ (p : Int) ∣ q j) ⟨hj, hx⟩
  have key : ∀ k, k ≤ n → (p : Int) ∣ pm q G k (i0 + j0) - (if j0 < k then q j0 * G i0 else 0) := by
    intro k
    induction k with
    | zero => intro _; rw [if_neg (by omega)]; exact ⟨0, by rw [Int.mul_zero]; rfl⟩
    | succ k ih =>
      intro hk
      have h1 := ih (by omega)
      rw [pm_s]
      rcases Nat.lt_trichotomy j0 k with e | e | e
      · rw [if_pos e] at h1
        rw [if_pos (show j0 < k + 1 by omega)]
        have h2 : (p : Int) ∣ (if k ≤ i0 + j0 then q k * G (i0 + j0 - k) else 0) := by
          split
          · have h3 : (p : Int) ∣ G (i0 + j0 - k) := Decidable.not_not.mp (hmin (i0 + j0 - k) (by omega))
            exact Int.dvd_mul_of_dvd_right h3
          · exact Int.dvd_zero _
        have h4 := Int.dvd_add h1 h2
        rw [show pm q G k (i0 + j0) + (if k ≤ i0 + j0 then q k * G (i0 + j0 - k) else 0) - q j0 * G i0 = pm q G k (i0 + j0) - q j0 * G i0 + (if k ≤ i0 + j0 then q k * G (i0 + j0 - k) else 0) by omega]
        exact h4
      · subst e
        rw [if_neg (by omega)] at h1
        rw [if_pos (show j0 < j0 + 1 by omega), if_pos (by omega), Nat.add_sub_cancel]
        rw [show pm q G j0 (i0 + j0) + q j0 * G i0 - q j0 * G i0 = pm q G j0 (i0 + j0) - 0 by omega]
        exact h1
      · rw [if_neg (by omega)] at h1
        rw [if_neg (show ¬ j0 < k + 1 by omega)]
        have h2 : (p : Int) ∣ (if k ≤ i0 + j0 then q k * G (i0 + j0 - k) else 0) := by
          split
          · have h3 : (p : Int) ∣ q k := Decidable.not_not.mp (fun hn => hminj k e ⟨by omega, hn⟩)
            exact Int.dvd_mul_of_dvd_left h3
          · exact Int.dvd_zero _
        have h4 := Int.dvd_add h1 h2
        rw [show pm q G k (i0 + j0) + (if k ≤ i0 + j0 then q k * G (i0 + j0 - k) else 0) - 0 = pm q G k (i0 + j0) - 0 + (if k ≤ i0 + j0 then q k * G (i0 + j0 - k) else 0) by omega]
        exact h4
  have h1 := key n (Nat.le_refl _)
  rw [if_pos hj0n] at h1
  have h2 : (p : Int) ∣ q j0 * G i0 := by
    have h3 := Int.dvd_sub (h (i0 + j0)) h1
    rw [show pm q G n (i0 + j0) - (pm q G n (i0 + j0) - q j0 * G i0) = q j0 * G i0 by omega] at h3
    exact h3
  rcases hp.2 _ _ h2 with h3 | h3
  · exact absurd h3 hj0
  · exact absurd h3 hi0
/-- primitive -/
def Prim (G : Row) : Prop := ∀ e : Nat, (∀ i, (e : Int) ∣ G i) → e = 1
theorem gauss {G P : Row} (hG : Prim G) {t : Int} (ht : t ≠ 0) (h : Dv G (fun m => t * P m)) : Dv G P := by
  obtain ⟨q, n, hq, hp⟩ := h
  have key : ∀ (k : Nat) (t : Int) (q : Row), t.natAbs = k → t ≠ 0 → (∀ m, t * P m = pm q G n m) → Dv G P := by
    intro k
    induction k using Nat.strongRecOn with
    | _ k ih =>
      intro t q hk ht hp
      rcases Nat.lt_or_ge k 2 with e | e
      · refine Dv.of (q := fun i => t * q i) (n := n) (fun m => ?_)
        rw [pm_mul, ← hp m, ← Int.mul_assoc]
        rcases (show t = 1 ∨ t = -1 by omega) with e2 | e2 <;> rw [e2] <;> omega
      · obtain ⟨p, hpp, hpk⟩ := ex_prime e
        have hpt : (p : Int) ∣ t := Int.ofNat_dvd_left.mpr (by rw [hk]; exact hpk)
        obtain ⟨t', rfl⟩ := hpt
        have hnG : ∃ i, ¬ (p : Int) ∣ G i := by
          by_cases hx : ∃ i, ¬ (p : Int) ∣ G i
          · exact hx
          · have := hG p (fun i => Decidable.not_not.mp (fun hn => hx ⟨i, hn⟩))
            have := hpp.1
            omega
        have hq2 := gauss_p hpp (q := q) hnG (fun m => by rw [← hp m, Int.mul_assoc]; exact Int.dvd_mul_right _ _)
        have hp0 : (p : Int) ≠ 0 := by have := hpp.1; omega
        refine ih t'.natAbs ?_ t' (fun i => (q i).tdiv p) rfl (fun e => ht (by rw [e, Int.mul_zero])) (fun m => ?_)
        · rw [← hk, Int.natAbs_mul, Int.natAbs_natCast]
          have h1 : 0 < t'.natAbs := by
            rcases Nat.eq_zero_or_pos t'.natAbs with z | z
            · exact absurd (by rw [show t' = 0 by omega, Int.mul_zero]) ht
            · exact z
          have h2 : 2 * t'.natAbs ≤ p * t'.natAbs := Nat.mul_le_mul_right _ hpp.1
          omega
        · have h1 : pm q G n m = p * pm (fun i => (q i).tdiv p) G n m := by
            rw [← pm_mul]
            exact pm_congr (fun i hi => (Int.mul_tdiv_cancel' (hq2 i hi)).symm)
          have h2 := hp m
          rw [h1, Int.mul_assoc] at h2
          exact Int.eq_of_mul_eq_mul_left hp0 h2
  exact key _ t q rfl ht hp
