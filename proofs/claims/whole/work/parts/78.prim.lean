/-! MATHEMATICS: primitive parts; what the last link divides; exact division -/
theorem cntN_mul (t : Int) (c : Row) (n : Nat) : cntN (fun i => t * c i) n = t.natAbs * cntN c n := by
  induction n with
  | zero => rfl
  | succ n ih =>
    show Nat.gcd (cntN (fun i => t * c i) n) (t * c n).natAbs = t.natAbs * Nat.gcd (cntN c n) (c n).natAbs
    rw [ih, Int.natAbs_mul, Nat.gcd_mul_left]
theorem cnt_mul (t : Int) (c : Row) : cnt (fun i => t * c i) = t.natAbs * cnt c := cntN_mul t c 9
theorem prim_of {G : Row} (h : cnt G = 1) : Prim G := fun e he => Nat.dvd_one.mp (h ▸ dvd_cnt he)
theorem dl_mul {c : Row} {t : Int} (h9 : ∀ i, 9 ≤ i → c i = 0) (ht : t ≠ 0) : dl (fun i => t * c i) = dl c := dl_same h9 (fun i hi => by show t * c i = 0; rw [hi, Int.mul_zero]) (fun i hi => Int.mul_ne_zero ht hi)
theorem lc_mul {c : Row} {t : Int} (h9 : ∀ i, 9 ≤ i → c i = 0) (ht : t ≠ 0) : lc (fun i => t * c i) = t * lc c := by
  unfold lc
  rw [dl_mul h9 ht]
  split
  · rw [Int.mul_zero]
  · rfl
/-- the factor between a polynomial and its primitive part -/
def kap (c : Row) : Int := if lc c < 0 then -(cnt c : Int) else cnt c
theorem kap_ne {c : Row} (h : dl c ≠ 0) : kap c ≠ 0 := by
  have := cnt_ne h
  unfold kap
  split <;> omega
theorem kap_pp {c : Row} (h9 : ∀ i, 9 ≤ i → c i = 0) (i : Nat) : c i = kap c * ppos c i := by
  unfold kap ppos
  have h1 := Int.mul_tdiv_cancel' (cnt_dvd h9 i)
  split
  · rw [Int.neg_mul_neg, h1]
  · exact h1.symm
theorem pp9 {c : Row} (h9 : ∀ i, 9 ≤ i → c i = 0) {i : Nat} (hi : 9 ≤ i) : ppos c i = 0 := by
  unfold ppos
  rw [h9 i hi, Int.zero_tdiv]
  split <;> rfl
theorem fun_kap {c : Row} (h9 : ∀ i, 9 ≤ i → c i = 0) : c = fun i => kap c * ppos c i := funext (kap_pp h9)
theorem dl_pp {c : Row} (h9 : ∀ i, 9 ≤ i → c i = 0) (h : dl c ≠ 0) : dl (ppos c) = dl c := by
  have h1 := dl_mul (c := ppos c) (fun i hi => pp9 h9 hi) (kap_ne h)
  rw [← h1, ← fun_kap h9]
theorem cnt_pp {c : Row} (h9 : ∀ i, 9 ≤ i → c i = 0) (h : dl c ≠ 0) : cnt (ppos c) = 1 := by
  have h1 := cnt_mul (kap c) (ppos c)
  rw [← fun_kap h9] at h1
  have h2 : (kap c).natAbs = cnt c := by unfold kap; split <;> omega
  rw [h2] at h1
  have h3 := cnt_ne h
  have h4 : cnt c * 1 = cnt c * cnt (ppos c) := by omega
  exact (Nat.eq_of_mul_eq_mul_left (by omega) h4).symm
theorem lc_pp {c : Row} (h9 : ∀ i, 9 ≤ i → c i = 0) (h : dl c ≠ 0) : lc c = kap c * lc (ppos c) := by
  have h1 := lc_mul (c := ppos c) (t := kap c) (fun i hi => pp9 h9 hi) (kap_ne h)
  rw [← fun_kap h9] at h1
  exact h1
theorem lc_pp_pos {c : Row} (h9 : ∀ i, 9 ≤ i → c i = 0) (h : dl c ≠ 0) : 0 < lc (ppos c) := by
  have h1 := lc_pp h9 h
  have h2 := lc_ne h
  have h3 := cnt_ne h
  rcases Int.lt_trichotomy (lc (ppos c)) 0 with e | e | e
  · exfalso
    unfold kap at h1
    split at h1
    · have := Int.mul_pos_of_neg_of_neg (show -(cnt c : Int) < 0 by omega) e
      omega
    · have := Int.mul_neg_of_pos_of_neg (show (0 : Int) < cnt c by omega) e
      omega
  · rw [e, Int.mul_zero] at h1
    exact absurd h1 h2
  · exact e
/-- two primitive ones with leading coefficients above 0, one a multiple of the other -/
theorem pp_uniq0 {P Q : Row} {a b : Int} (hP9 : ∀ i, 9 ≤ i → P i = 0) (hQ9 : ∀ i, 9 ≤ i → Q i = 0) (hP : cnt P = 1) (hQ : cnt Q = 1) (hlP : 0 < lc P) (hlQ : 0 < lc Q) (hb : b ≠ 0) (h : ∀ i, a * P i = b * Q i) : P = Q := by
  have hf : (fun i => a * P i) = (fun i => b * Q i) := funext h
  have h1 := congrArg cnt hf
  rw [cnt_mul, cnt_mul, hP, hQ] at h1
  have ha : a ≠ 0 := by omega
  have h2 := congrArg lc hf
  rw [lc_mul hP9 ha, lc_mul hQ9 hb] at h2
  have h3 : a = b := by
    rcases (show a = b ∨ a = -b by omega) with e | e
    · exact e
    · exfalso
      rw [e, Int.neg_mul] at h2
      have h4 : b * lc P ≠ 0 := Int.mul_ne_zero hb (by omega)
      rcases Int.lt_or_gt_of_ne hb with e2 | e2
      · have := Int.mul_neg_of_neg_of_pos e2 hlP
        have := Int.mul_neg_of_neg_of_pos e2 hlQ
        omega
      · have := Int.mul_pos e2 hlP
        have := Int.mul_pos e2 hlQ
        omega
  funext i
  have h4 := h i
  rw [h3] at h4
  exact Int.eq_of_mul_eq_mul_left hb h4
theorem pp_uniq {c P : Row} {a b : Int} (hc9 : ∀ i, 9 ≤ i → c i = 0) (hP9 : ∀ i, 9 ≤ i → P i = 0) (hc : dl c ≠ 0) (hP : cnt P = 1) (hlP : 0 < lc P) (ha : a ≠ 0) (hb : b ≠ 0) (h : ∀ i, a * c i = b * P i) : ppos c = P :=
  pp_uniq0 (a := a * kap c) (b := b) (fun i hi => pp9 hc9 hi) hP9 (cnt_pp hc9 hc) hP (lc_pp_pos hc9 hc) hlP hb (fun i => by rw [← h i, Int.mul_assoc, ← kap_pp hc9 i])
theorem pp_prop {c d : Row} {a b : Int} (hc9 : ∀ i, 9 ≤ i → c i = 0) (hd9 : ∀ i, 9 ≤ i → d i = 0) (hc : dl c ≠ 0) (hd : dl d ≠ 0) (ha : a ≠ 0) (hb : b ≠ 0) (h : ∀ i, a * c i = b * d i) : ppos c = ppos d :=
  pp_uniq (a := a) (b := b * kap d) hc9 (fun i hi => pp9 hd9 hi) hc (cnt_pp hd9 hd) (lc_pp_pos hd9 hd) ha (Int.mul_ne_zero hb (kap_ne hd)) (fun i => by rw [h i, Int.mul_assoc, ← kap_pp hd9 i])
/-- the last link's primitive part divides every link -/
theorem chain_dvd {L : Nat → Row} {l : Nat} (hl : 1 ≤ l) (hS : SCp L l) (hE : SCe L l) : ∀ i, i ≤ l → Dv (ppos (L l)) (L i) := by
  have h9 := (hS.1 l (Nat.le_refl _)).2
  have hP := prim_of (cnt_pp h9 (hS.1 l (Nat.le_refl _)).1)
  have hll : Dv (ppos (L l)) (L l) := by
    have := (Dv.self (ppos (L l))).mul (kap (L l))
    rw [← fun_kap h9] at this
    exact this
  have hpred : Dv (ppos (L l)) (L (l - 1)) := by
    obtain ⟨u, q, n, hu, he⟩ := hE
    refine gauss hP (t := u) (by omega) ?_
    have := dv_pm q n hll
    rw [show (fun m => pm q (L l) n m) = (fun m => u * L (l - 1) m) from funext (fun m => (he m).symm)] at this
    exact this
  have key : ∀ j, j < l → Dv (ppos (L l)) (L (l - j)) ∧ Dv (ppos (L l)) (L (l - (j + 1))) := by
    intro j
    induction j with
    | zero => intro _; exact ⟨hll, hpred⟩
    | succ j ih =>
      intro hj
      obtain ⟨h1, h2⟩ := ih (by omega)
      refine ⟨h2, ?_⟩
      obtain ⟨_, u, s, q, n, hu, hs, he⟩ := hS.2 (l - (j + 1)) (by omega) (by omega)
      refine gauss hP (t := u) (by omega) ?_
      have h3 := (dv_pm q n h2).add (h1.mul (-s))
      refine (funext (fun m => ?_) : (fun m => u * L (l - (j + 1 + 1)) m) = _) ▸ h3
      have h4 := he m
      rw [show l - (j + 1) - 1 = l - (j + 1 + 1) by omega, show l - (j + 1) + 1 = l - j by omega] at h4
      rw [Int.neg_mul]
      omega
  intro i hi
  rcases Nat.eq_zero_or_pos i with e | e
  · subst e
    have := (key (l - 1) (by omega)).2
    rw [show l - (l - 1 + 1) = 0 by omega] at this
    exact this
  · have := (key (l - i) (by omega)).1
    rw [show l - (l - i) = i by omega] at this
    exact this
/-- a divisor, with its quotient -/
theorem dv_top {G P : Row} (hG9 : ∀ i, 9 ≤ i → G i = 0) (hP9 : ∀ i, 9 ≤ i → P i = 0) (hG : dl G ≠ 0) (hP : dl P ≠ 0) (h : Dv G P) : ∃ q : Row, (∀ i, 9 ≤ i → q i = 0) ∧ (∀ m, P m = pm q G 9 m) ∧ dl P + 1 = dl q + dl G ∧ lc P = lc q * lc G ∧ dl q ≠ 0 := by
  obtain ⟨q, n, hq, hp⟩ := h
  have hln : ln q n ≠ 0 := by
    intro e
    have hz : ∀ i, q i = 0 := fun i => by
      rcases Nat.lt_or_ge i n with h1 | h1
      · exact ln_zero (show ln q n ≤ i by omega) h1
      · exact hq i h1
    have : P (dl P - 1) ≠ 0 := ln_top hP
    rw [hp, pm_ext (n := 0) (Nat.zero_le _) (fun i _ => hz i)] at this
    exact this rfl
  obtain ⟨d, hd⟩ : ∃ d, ln q n = d + 1 := ⟨ln q n - 1, by omega⟩
  obtain ⟨e, he⟩ : ∃ e, dl G = e + 1 := ⟨dl G - 1, by omega⟩
  have hqd : q d ≠ 0 := by
    have : q (ln q n - 1) ≠ 0 := ln_top hln
    rw [hd, Nat.add_sub_cancel] at this
    exact this
  have hq0 : ∀ i, d < i → q i = 0 := fun i hi => by
    rcases Nat.lt_or_ge i n with h1 | h1
    · exact ln_zero (show ln q n ≤ i by omega) h1
    · exact hq i h1
  have hGe : G e ≠ 0 := by
    have : G (dl G - 1) ≠ 0 := ln_top hG
    rw [he, Nat.add_sub_cancel] at this
    exact this
  have hG0 : ∀ i, e < i → G i = 0 := fun i hi => dl_zero hG9 (by omega)
  have hdn : d < n := by have := ln_le q n; omega
  have hlead : P (d + e) = q d * G e := by rw [hp]; exact pm_lead hdn (fun i h1 _ => hq0 i h1) hG0
  have hlead0 : P (d + e) ≠ 0 := by rw [hlead]; exact Int.mul_ne_zero hqd hGe
  have hde : d + e < 9 := by
    rcases Nat.lt_or_ge (d + e) 9 with h1 | h1
    · exact h1
    · exact absurd (hP9 _ h1) hlead0
  have hdlP : dl P = d + e + 1 := dl_uniq (by omega) (fun i hi => by rw [hp]; exact pm_top (fun i h1 _ => hq0 i h1) hG0 (by omega)) (fun _ => by rw [Nat.add_sub_cancel]; exact hlead0)
  have hdlq : dl q = d + 1 := dl_uniq (by omega) (fun i hi => hq0 i (by omega)) (fun _ => by rw [Nat.add_sub_cancel]; exact hqd)
  refine ⟨q, fun i hi => hq0 i (by omega), fun m => ?_, by omega, ?_, by omega⟩
  · rw [hp, pm_ext (n := d + 1) (n2 := n) (by omega) (fun i hi => hq0 i (by omega)), pm_ext (n := d + 1) (n2 := 9) (by omega) (fun i hi => hq0 i (by omega))]
  · rw [lc_eq hP, lc_eq (by omega), lc_eq hG, hdlP, hdlq, he]
    exact hlead
theorem natAbs_le_mulR {a b : Int} (ha : a ≠ 0) : b.natAbs ≤ (a * b).natAbs := by
  rw [Int.natAbs_mul]
  exact Nat.le_mul_of_pos_left _ (by omega)
theorem lc_abs {P : Row} {X : Nat} (h : ∀ i, (P i).natAbs ≤ X) : (lc P).natAbs ≤ X := by
  unfold lc
  split
  · exact Nat.zero_le _
  · exact h _
/-- how long the two factors are -/
theorem factors_bd {P q G : Row} {X : Nat} (hP9 : ∀ i, 9 ≤ i → P i = 0) (hq9 : ∀ i, 9 ≤ i → q i = 0) (hG9 : ∀ i, 9 ≤ i → G i = 0) (hP : dl P ≠ 0) (hq : dl q ≠ 0) (hG : dl G ≠ 0) (h : ∀ m, P m = pm q G 9 m) (hl : lc P = lc q * lc G) (hX : ∀ i, (P i).natAbs ≤ X) :
    ns G 9 ≤ fbd (dl G - 1) (X * 19173961) X ∧ ns q 9 ≤ fbd (dl q - 1) (X * 19173961) X := by
  have hval : ∀ t, val P t = val q t * val G t := fun t => by
    rw [show P = fun m => pm q G 9 m from funext h, val_pm hG9 9 (by omega), val9 hq9 (by omega)]
  have hex : ∃ i, P i ≠ 0 := ⟨dl P - 1, ln_top hP⟩
  have hlX := lc_abs hX
  have hdG := dl_le G
  have hdq := dl_le q
  rw [hl] at hlX
  constructor
  · refine factor_bd (d := dl G - 1) hP9 hex hX (fun i hi => dl_zero hG9 (by omega)) (by omega) (Nat.le_refl _) ?_ (fun t => by rw [hval]; exact Int.dvd_mul_left _ _)
    rw [← lc_eq hG]
    exact Nat.le_trans (natAbs_le_mulR (lc_ne hq)) hlX
  · refine factor_bd (d := dl q - 1) hP9 hex hX (fun i hi => dl_zero hq9 (by omega)) (by omega) (Nat.le_refl _) ?_ (fun t => by rw [hval]; exact Int.dvd_mul_right _ _)
    rw [← lc_eq hq]
    exact Nat.le_trans (natAbs_le_mul (lc_ne hG)) hlX
theorem fbd8 : fbd 8 (2147483648 ^ 6 * 19173961) (2147483648 ^ 6) < 2147483648 ^ 8 := by decide +kernel
/-- an exact division -/
theorem dv_exact {q G : Row} {e : Nat} (hGe : G e ≠ 0) (hG : ∀ i, e < i → G i = 0) (hb : ∀ k i, k ≤ 9 → (pm q G k i).natAbs < 2147483648 ^ 60) (hb2 : ∀ j i, (q j * G i).natAbs < 2147483648 ^ 298) (k : Nat) (hk : k ≤ 9) : dvOK G e k (fun m => pm q G k m) ∧ (∀ i, dvQ G e k (fun m => pm q G k m) i = if i < k then q i else 0) ∧ dvB G e 60 k (fun m => pm q G k m) := by
  induction k with
  | zero => exact ⟨fun _ => rfl, fun _ => rfl, trivial⟩
  | succ u ih =>
    have hlead : pm q G (u + 1) (e + u) = q u * G e := by
      have := pm_lead (q := q) (G := G) (n := u + 1) (d := u) (e := e) (by omega) (fun i h1 h2 => absurd h1 (by omega)) hG
      rw [Nat.add_comm e u]
      exact this
    have hq' : dvq G e (fun m => pm q G (u + 1) m) u = q u := by
      show (pm q G (u + 1) (e + u)).tdiv (G e) = q u
      rw [hlead]
      exact Int.mul_tdiv_cancel _ hGe
    have hmod : (pm q G (u + 1) (e + u)).tmod (G e) = 0 := by
      rw [hlead]
      exact Int.mul_tmod_left _ _
    have htop : ∀ i, e + u ≤ i → pm q G u i = 0 := fun i hi => by
      rcases Nat.eq_zero_or_pos u with z | z
      · subst z; rfl
      · exact pm_top (d := u - 1) (e := e) (fun i h1 h2 => absurd h1 (by omega)) hG (by omega)
    have hS : dvS G e (fun m => pm q G (u + 1) m) u = fun m => pm q G u m := by
      funext i
      unfold dvS
      rw [hq']
      dsimp only
      by_cases h1 : u ≤ i ∧ i < e + u
      · rw [if_pos h1, pm_s, if_pos h1.1]
        omega
      · rw [if_neg h1]
        by_cases h2 : i = e + u
        · rw [if_pos h2, htop i (by omega)]
        · rw [if_neg h2, pm_s]
          split
          · next h3 =>
            rw [hG (i - u) (by omega), Int.mul_zero, Int.add_zero]
          · rw [Int.add_zero]
    obtain ⟨i1, i2, i3⟩ := ih (by omega)
    refine ⟨⟨hmod, by rw [hS]; exact i1⟩, fun i => ?_, fun i => hb (u + 1) i hk, fun _ => ⟨fun i => by rw [hq']; exact hb2 u i, by rw [hS]; exact i3⟩⟩
    show pu (dvQ G e u (dvS G e (fun m => pm q G (u + 1) m) u)) u (dvq G e (fun m => pm q G (u + 1) m) u) i = _
    rw [hS, hq']
    by_cases h1 : i = u
    · rw [h1, pu_e, if_pos (by omega)]
    · rw [pu_n h1, i2 i]
      by_cases h2 : i < u
      · rw [if_pos h2, if_pos (by omega)]
      · rw [if_neg h2, if_neg (by omega)]
theorem dvB_gen {y : Row} {d Y : Nat} (hY1 : 1 ≤ Y) (hy : ∀ i, (y i).natAbs ≤ Y) : ∀ (k : Nat) {X : Nat} {W : Row}, (∀ i, (W i).natAbs ≤ X) → X * (2 * Y) ^ (k - 1) < 2147483648 ^ 60 → X * (2 * Y) ^ k < 2147483648 ^ 298 → dvB y d 60 k W := by
  intro k
  induction k with
  | zero => intro X W _ _ _; exact trivial
  | succ u ih =>
    intro X W hW h1 h2
    have hq : (dvq y d W u).natAbs ≤ X := Nat.le_trans (tdiv_le _ _) (hW _)
    have hqy : ∀ i, (dvq y d W u * y i).natAbs ≤ X * Y := fun i => by rw [Int.natAbs_mul]; exact Nat.mul_le_mul hq (hy i)
    have hXY : X * (2 * Y) = X * Y + X * Y := by rw [Nat.mul_left_comm]; omega
    have hXXY : X ≤ X * Y := Nat.le_mul_of_pos_right _ hY1
    rw [Nat.add_sub_cancel] at h1
    refine ⟨fun i => Nat.lt_of_le_of_lt (hW i) (Nat.lt_of_le_of_lt (le_mul_pow (by omega)) h1), fun _ => ⟨fun i => ?_, ?_⟩⟩
    · refine Nat.lt_of_le_of_lt (hqy i) (Nat.lt_of_le_of_lt ?_ h2)
      rw [Nat.pow_succ', ← Nat.mul_assoc]
      exact Nat.le_trans (by omega) (le_mul_pow (by omega))
    · rcases Nat.eq_zero_or_pos u with z | z
      · subst z; exact trivial
      · refine ih (X := X * (2 * Y)) (fun i => ?_) ?_ ?_
        · unfold dvS
          split
          · have := natAbs_sub_le (W i) (dvq y d W u * y (i - u))
            have := hW i
            have := hqy (i - u)
            omega
          · split
            · exact Nat.zero_le _
            · have := hW i
              omega
        · rw [Nat.mul_assoc, ← Nat.pow_succ', show (u - 1).succ = u by omega]
          exact h1
        · rw [Nat.mul_assoc, ← Nat.pow_succ']
          exact h2
