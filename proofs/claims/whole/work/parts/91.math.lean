/-! MATHEMATICS: remainders are one; scaling; the step of subresultants without the machine -/
theorem pm_0 {q G : Row} {n m : Nat} (h : ∀ i, i < n → q i = 0) : pm q G n m = 0 := by
  induction n with
  | zero => rfl
  | succ n ih =>
    rw [pm_s, ih (fun i hi => h i (by omega)), h n (by omega), Int.zero_mul, ite_self]
    rfl
theorem dv_small {B C : Row} (hB9 : ∀ i, 9 ≤ i → B i = 0) (hC9 : ∀ i, 9 ≤ i → C i = 0) (h : Dv B C) (hd : dl C < dl B) : ∀ m, C m = 0 := by
  obtain ⟨q, n, hq, hp⟩ := h
  by_cases e : ln q n = 0
  · intro m
    rw [hp m]
    exact pm_0 (fun i hi => ln_zero (by omega) hi)
  · exfalso
    have hle := ln_le q n
    have h1 : pm q B n ((ln q n - 1) + (dl B - 1)) = q (ln q n - 1) * B (dl B - 1) := pm_lead (by omega) (fun i a b => ln_zero (by omega) b) (fun i hi => dl_zero hB9 (by omega))
    rw [← hp, dl_zero hC9 (by omega)] at h1
    have h2 : q (ln q n - 1) ≠ 0 := ln_top e
    have h3 : B (dl B - 1) ≠ 0 := ln_top (show dl B ≠ 0 by omega)
    exact Int.mul_ne_zero h2 h3 h1.symm
/-- a factor above 0 apart -/
def Pp (A B : Row) : Prop := ∃ s t : Int, 0 < s ∧ 0 < t ∧ ∀ m, s * A m = t * B m
theorem Pp.refl (A : Row) : Pp A A := ⟨1, 1, by omega, by omega, fun _ => rfl⟩
theorem Pp.symm {A B : Row} (h : Pp A B) : Pp B A := by
  obtain ⟨s, t, hs, ht, h⟩ := h
  exact ⟨t, s, ht, hs, fun m => (h m).symm⟩
theorem Pp.z {A B : Row} (h : Pp A B) {m : Nat} (hm : A m = 0) : B m = 0 := by
  obtain ⟨s, t, hs, ht, h⟩ := h
  have := h m
  rw [hm, Int.mul_zero] at this
  rcases Int.mul_eq_zero.mp this.symm with e | e
  · omega
  · exact e
theorem Pp.trans {A B C : Row} (h : Pp A B) (h2 : Pp B C) : Pp A C := by
  obtain ⟨s, t, hs, ht, h⟩ := h
  obtain ⟨s', t', hs', ht', h2⟩ := h2
  refine ⟨s * s', t * t', Int.mul_pos hs hs', Int.mul_pos ht ht', fun m => ?_⟩
  have e1 := h m
  have e2 := h2 m
  calc s * s' * A m = s' * (s * A m) := by grind
    _ = t * (s' * B m) := by rw [e1]; grind
    _ = t * t' * C m := by rw [e2]; grind
theorem Pp.dle {A B : Row} (h : Pp A B) : dl A = dl B := by
  refine (ln_uniq (dl_le A) (fun i a b => ?_) (fun h1 => ?_)).symm
  · exact h.z (ln_zero a b)
  · intro e
    exact absurd (h.symm.z e) (ln_top h1)
theorem rem_uniq {A A' B B' C C' q q' : Row} {n n' : Nat} {u s u' s' : Int} (hu : 0 < u) (hs : 0 < s) (hu' : 0 < u') (hs' : 0 < s') (hA : Pp A A') (hB : Pp B B') (hB9 : ∀ i, 9 ≤ i → B i = 0) (hC9 : ∀ i, 9 ≤ i → C i = 0) (hC9' : ∀ i, 9 ≤ i → C' i = 0)
    (hd : dl C < dl B) (hd' : dl C' < dl B') (h1 : ∀ m, u * A m + s * C m = pm q B n m) (h2 : ∀ m, u' * A' m + s' * C' m = pm q' B' n' m) : Pp C C' := by
  have hdB := hB.dle
  obtain ⟨a, a', ha, ha', hA⟩ := hA
  obtain ⟨b, b', hb, hb', hB⟩ := hB
  have e1 : Dv B (fun m => (b' * u' * a) * pm q B n m + (-(u * a')) * (b * pm q' B n' m)) := ((Dv.of (fun m => rfl) : Dv B (fun m => pm q B n m)).mul (b' * u' * a)).add (((Dv.of (fun m => rfl) : Dv B (fun m => pm q' B n' m)).mul b).mul (-(u * a')))
  have e2 : (fun m => (b' * u' * a) * pm q B n m + (-(u * a')) * (b * pm q' B n' m)) = fun m => (b' * s * u' * a) * C m - (b' * s' * u * a') * C' m := by
    funext m
    have h3 : b * pm q' B n' m = b' * pm q' B' n' m := by
      rw [← pm_mulR, ← pm_mulR, show (fun i => b * B i) = (fun i => b' * B' i) from funext hB]
    rw [h3, ← h1, ← h2]
    have h4 := hA m
    have h5 : b' * u' * u * (a * A m) = b' * u' * u * (a' * A' m) := by rw [h4]
    grind
  rw [e2] at e1
  have hd2 : dl (fun m => (b' * s * u' * a) * C m - (b' * s' * u * a') * C' m) < dl B := by
    rcases Nat.lt_or_ge (dl (fun m => (b' * s * u' * a) * C m - (b' * s' * u * a') * C' m)) (dl B) with e | e
    · exact e
    · exfalso
      have hne : dl (fun m => (b' * s * u' * a) * C m - (b' * s' * u * a') * C' m) ≠ 0 := by omega
      have htop := ln_top hne
      have hge : dl B ≤ ln (fun m => (b' * s * u' * a) * C m - (b' * s' * u * a') * C' m) 9 := e
      apply htop
      show (b' * s * u' * a) * C _ - (b' * s' * u * a') * C' _ = 0
      rw [dl_zero hC9 (by omega), dl_zero hC9' (by omega)]
      omega
  have hz := dv_small hB9 (fun i hi => by show _ - _ = (0 : Int); rw [hC9 i hi, hC9' i hi]; omega) e1 hd2
  refine ⟨b' * s * u' * a, b' * s' * u * a', ?_, ?_, fun m => ?_⟩
  · exact Int.mul_pos (Int.mul_pos (Int.mul_pos hb' hs) hu') ha
  · exact Int.mul_pos (Int.mul_pos (Int.mul_pos hb' hs') hu) ha'
  · have := hz m
    omega
theorem dl_0 : dl (fun _ => (0 : Int)) = 0 := by decide
theorem chain_half {L L' : Nat → Row} {l l' : Nat} (hl : 1 ≤ l) (hS : SCp L l) (hE : SCe L l) (hS' : SCp L' l') (h0 : Pp (L 0) (L' 0)) (h1 : Pp (L 1) (L' 1)) : ∀ j, j + 1 ≤ l → j + 1 ≤ l' → Pp (L j) (L' j) ∧ Pp (L (j + 1)) (L' (j + 1)) := by
  intro j
  induction j with
  | zero => intro _ _; exact ⟨h0, h1⟩
  | succ j ih =>
    intro g1 g2
    obtain ⟨i1, i2⟩ := ih (by omega) (by omega)
    refine ⟨i2, ?_⟩
    obtain ⟨d1, u, s, q, n, hu, hs, he⟩ := hS.2 (j + 1) (by omega) (by omega)
    obtain ⟨d2, u', s', q', n', hu', hs', he'⟩ := hS'.2 (j + 1) (by omega) (by omega)
    rw [Nat.add_sub_cancel] at he he'
    exact rem_uniq hu hs hu' hs' i1 i2 (hS.1 (j + 1) (by omega)).2 (hS.1 (j + 2) (by omega)).2 (hS'.1 (j + 2) (by omega)).2 d1 d2 he he'
theorem chain_len {L L' : Nat → Row} {l l' : Nat} (hl : 1 ≤ l) (hS : SCp L l) (hE : SCe L l) (hS' : SCp L' l') (h0 : Pp (L 0) (L' 0)) (h1 : Pp (L 1) (L' 1)) : l' ≤ l := by
  rcases Nat.lt_or_ge l l' with e | e
  · exfalso
    obtain ⟨i1, i2⟩ := chain_half hl hS hE hS' h0 h1 (l - 1) (by omega) (by omega)
    rw [show l - 1 + 1 = l by omega] at i2
    obtain ⟨u, q, n, hu, he⟩ := hE
    obtain ⟨d2, u', s', q', n', hu', hs', he'⟩ := hS'.2 l hl e
    have := rem_uniq (C := fun _ => 0) (s := 1) hu (by omega) hu' hs' i1 i2 (hS.1 l (Nat.le_refl _)).2 (fun _ _ => rfl) (hS'.1 (l + 1) (by omega)).2 (by rw [dl_0]; have := (hS.1 l (Nat.le_refl _)).1; omega) d2 (fun m => by rw [Int.one_mul, Int.add_zero]; exact he m) he'
    have h2 := this.dle
    rw [dl_0] at h2
    exact (hS'.1 (l + 1) (by omega)).1 h2.symm
  · exact e
theorem chain_uniq {L L' : Nat → Row} {l l' : Nat} (hl : 1 ≤ l) (hl' : 1 ≤ l') (hS : SCp L l) (hE : SCe L l) (hS' : SCp L' l') (hE' : SCe L' l') (h0 : Pp (L 0) (L' 0)) (h1 : Pp (L 1) (L' 1)) : l = l' ∧ ∀ i, i ≤ l → Pp (L i) (L' i) := by
  have e1 := chain_len hl hS hE hS' h0 h1
  have e2 := chain_len hl' hS' hE' hS h0.symm h1.symm
  refine ⟨by omega, fun i hi => ?_⟩
  rcases Nat.eq_zero_or_pos i with e | e
  · rw [e]; exact h0
  · have := (chain_half hl hS hE hS' h0 h1 (i - 1) (by omega) (by omega)).2
    rw [show i - 1 + 1 = i by omega] at this
    exact this
theorem Pp.pp {A B : Row} (hA : ∀ i, 9 ≤ i → A i = 0) (hB : ∀ i, 9 ≤ i → B i = 0) (h0 : dl A ≠ 0) (h : Pp A B) : ppos A = ppos B := by
  have hd := h.dle
  obtain ⟨s, t, hs, ht, h⟩ := h
  exact pp_prop hA hB h0 (by omega) (by omega) (by omega) h
/-- the greatest common divisor is one -/
theorem gcd_uniq {x y G G' : Row} (h : GcdOf x y G) (h' : GcdOf x y G') : G = G' := by
  rcases h with ⟨e, h⟩ | ⟨e, l, L, h1, h2, h3, h4, h5, h6⟩
  · rcases h' with ⟨e', h'⟩ | ⟨e', _⟩
    · rw [h, h']
    · exact absurd e e'
  · rcases h' with ⟨e', h'⟩ | ⟨e', l', L', k1, k2, k3, k4, k5, k6⟩
    · exact absurd e' e
    · obtain ⟨g1, g2⟩ := chain_uniq h1 k1 h2 h3 k2 k3 (by rw [h4, k4]; exact Pp.refl _) (by rw [h5, k5]; exact Pp.refl _)
      subst g1
      rw [h6, k6]
      exact (g2 l (Nat.le_refl _)).pp (h2.1 l (Nat.le_refl _)).2 (k2.1 l (Nat.le_refl _)).2 (h2.1 l (Nat.le_refl _)).1
theorem redS_sc {y W : Row} {d u : Nat} {s t : Int} (ht : t ≠ 0) (hy : y d ≠ 0) : redS (fun i => t * y i) d (fun i => s * W i) u = fun i => ((t.natAbs : Int) * s) * redS y d W u i := by
  funext i
  unfold redS
  dsimp only
  rcases Int.lt_or_gt_of_ne ht with h1 | h1
  · rw [show (t.natAbs : Int) = -t by omega]
    rcases Int.lt_or_gt_of_ne hy with h2 | h2
    · have h3 : ¬ t * y d < 0 := by have := Int.mul_pos_of_neg_of_neg h1 h2; omega
      rw [if_neg h3, if_pos h2]
      split <;> grind
    · have h3 : t * y d < 0 := Int.mul_neg_of_neg_of_pos h1 h2
      rw [if_pos h3, if_neg (show ¬ y d < 0 by omega)]
      split <;> grind
  · rw [show (t.natAbs : Int) = t by omega]
    rcases Int.lt_or_gt_of_ne hy with h2 | h2
    · have h3 : t * y d < 0 := Int.mul_neg_of_pos_of_neg h1 h2
      rw [if_pos h3, if_pos h2]
      split <;> grind
    · have h3 : ¬ t * y d < 0 := by have := Int.mul_pos h1 h2; omega
      rw [if_neg h3, if_neg (show ¬ y d < 0 by omega)]
      split <;> grind
theorem red_sc {y : Row} {d : Nat} {t : Int} (ht : t ≠ 0) (hy : y d ≠ 0) : ∀ (k : Nat) (s : Int) (W : Row), red (fun i => t * y i) d k (fun i => s * W i) = fun i => ((t.natAbs : Int) ^ k * s) * red y d k W i := by
  intro k
  induction k with
  | zero =>
    intro s W
    funext i
    show s * W i = 1 * s * W i
    rw [Int.one_mul]
  | succ k ih =>
    intro s W
    show red (fun i => t * y i) d k (redS (fun i => t * y i) d (fun i => s * W i) k) = _
    rw [redS_sc ht hy, ih]
    funext i
    show _ = (t.natAbs : Int) ^ (k + 1) * s * red y d k (redS y d W k) i
    rw [Int.pow_succ]
    grind
/-- the state of a chain of remainders: A, B its last two, P0, P1 its first -/
def PI (R n0 n1 : Nat) (P0 P1 A B : Row) (f : Prop) (a b g h : Nat) : Prop :=
  ((∀ m, 9 ≤ m → A m = 0) ∧ (∀ m, 9 ≤ m → B m = 0) ∧ dl A = a + 1 ∧ dl B = b + 1 ∧ b ≤ a ∧ (¬ f → b < a) ∧ b ≤ n1 ∧ (¬ f → a ≤ n1)) ∧ SI n0 n1 P0 P1 A B a b g h ∧
  ∃ al be, (∀ m, (A m).natAbs ≤ R ^ al) ∧ (∀ m, (B m).natAbs ≤ R ^ be) ∧ (al ≤ 1 ∨ al + 2 * a ≤ n0 + n1) ∧ (be ≤ 1 ∨ be + 2 * a ≤ n0 + n1 + 2) ∧ (f → be ≤ 1)
/-- what is given of the first two -/
def PG (R n0 n1 : Nat) (P0 P1 : Row) : Prop := roomR R (n0 + n1) ∧ 1 ≤ R ∧ n1 ≤ n0 ∧ n0 ≤ 8 ∧ (∀ m, 9 ≤ m → P0 m = 0) ∧ (∀ m, 9 ≤ m → P1 m = 0) ∧ ns P0 9 ≤ R ∧ ns P1 9 ≤ R ∧ dl P0 = n0 + 1 ∧ dl P1 = n1 + 1
theorem pi_start {R n0 n1 : Nat} {P0 P1 : Row} (h : PG R n0 n1 P0 P1) (f : Prop) (hf : f) : PI R n0 n1 P0 P1 P0 P1 f n0 n1 1 1 := by
  obtain ⟨h1, h2, h3, h4, h5, h6, h7, h8, h9, h10⟩ := h
  refine ⟨⟨h5, h6, h9, h10, h3, fun h => absurd hf h, Nat.le_refl _, fun h => absurd hf h⟩, SI.start n0 n1 P0 P1, 1, 1, fun m => ?_, fun m => ?_, Or.inl (Nat.le_refl _), Or.inl (Nat.le_refl _), fun _ => Nat.le_refl _⟩
  · rw [Nat.pow_one]
    exact Nat.le_trans (ns_ge9 h5 m) h7
  · rw [Nat.pow_one]
    exact Nat.le_trans (ns_ge9 h6 m) h8
theorem pi_bd {R n0 n1 a b g h : Nat} {P0 P1 A B : Row} {f : Prop} (hG : PG R n0 n1 P0 P1) (hI : PI R n0 n1 P0 P1 A B f a b g h) (hb : 1 ≤ b) : ∃ X Y, (∀ m, (A m).natAbs ≤ X) ∧ (∀ m, (B m).natAbs ≤ Y) ∧ X * (2 * Y) ^ (a - b + 1) < 2147483648 ^ 299 := by
  obtain ⟨⟨i1, i2, i3, i4, i5, i6, i7, i8⟩, i9, al, be, j1, j2, j3, j4, j5⟩ := hI
  have := dl_le A
  exact ⟨R ^ al, R ^ be, j1, j2, hG.1.work hG.2.1 j3 j4 hb i5 (by omega)⟩
theorem pi_lb {R n0 n1 a b g h : Nat} {P0 P1 A B : Row} {f : Prop} (hG : PG R n0 n1 P0 P1) (hI : PI R n0 n1 P0 P1 A B f a b g h) (m : Nat) : (B m).natAbs < 2147483648 ^ 100 := by
  obtain ⟨⟨i1, i2, i3, i4, i5, i6, i7, i8⟩, i9, al, be, j1, j2, j3, j4, j5⟩ := hI
  refine Nat.lt_of_le_of_lt (j2 m) ?_
  rcases j4 with e | e
  · rcases hG.1 with ⟨r1, r2, _⟩ | ⟨r1, r2, _⟩
    · exact Nat.lt_of_le_of_lt (Nat.pow_le_pow_right hG.2.1 (by omega)) r2
    · exact Nat.lt_of_le_of_lt (Nat.pow_le_pow_right hG.2.1 (by omega)) r2
  · rcases Nat.eq_zero_or_pos a with e2 | e2
    · have := hG.1
      rcases hG.1 with ⟨r1, r2, _⟩ | ⟨r1, r2, _⟩
      · rcases Nat.lt_or_ge be 17 with e3 | e3
        · exact Nat.lt_of_le_of_lt (Nat.pow_le_pow_right hG.2.1 (by omega)) r2
        · exfalso
          have h5 := hG.2.2.2.2.2.2.2.2
          by_cases hf : f
          · have := j5 hf
            omega
          · have := i6 hf
            omega
      · rcases Nat.lt_or_ge be 14 with e3 | e3
        · exact Nat.lt_of_le_of_lt (Nat.pow_le_pow_right hG.2.1 (by omega)) r2
        · exfalso
          by_cases hf : f
          · have := j5 hf
            omega
          · have := i6 hf
            omega
    · exact hG.1.link hG.2.1 (by omega)
theorem pi_step {R n0 n1 a b g h : Nat} {P0 P1 A B : Row} {f : Prop} (hG : PG R n0 n1 P0 P1) (hI : PI R n0 n1 P0 P1 A B f a b g h) (hb : 1 ≤ b) :
    (∀ m, red B b (a - b + 1) A m = 0) ∨ ∃ (C : Row) (c g' h' : Nat) (β : Int), 0 < β ∧ (∀ m, red B b (a - b + 1) A m = -β * C m) ∧ c < b ∧ PI R n0 n1 P0 P1 B C False b c g' h' := by
  obtain ⟨hroom, hR1, hn01, hn0, hP09, hP19, hX, hY, _, _⟩ := hG
  obtain ⟨⟨hA9, hB9, hda, hdb, hba, hlt, hbn1, han1⟩, hSI, al, be, hal, hbe, hnal, hnbe, hbe1⟩ := hI
  have hA : ∀ m, a < m → A m = 0 := fun m hm => dl_zero hA9 (by omega)
  have hB : ∀ m, b < m → B m = 0 := fun m hm => dl_zero hB9 (by omega)
  have hBb : B b ≠ 0 := by
    have : B (dl B - 1) ≠ 0 := ln_top (show dl B ≠ 0 by omega)
    rw [hdb, Nat.add_sub_cancel] at this
    exact this
  have ha8 : a ≤ 8 := by
    have := dl_le A
    omega
  have htop := si_top hSI hA hB hBb (by omega) hba
  have hWz : ∀ m, b ≤ m → red B b (a - b + 1) A m = 0 := fun m hm => red_top hB (fun j hj => hA j (by omega)) hm
  generalize hWdef : red B b (a - b + 1) A = W at *
  by_cases hW0 : dl W = 0
  · exact Or.inl (fun m => dl_zero (fun i hi => hWz i (by omega)) (by omega))
  refine Or.inr ?_
  have hWn : W (dl W - 1) ≠ 0 := ln_top hW0
  have hbeta : 0 < g * h ^ (a - b) := Nat.mul_pos hSI.1 (Nat.pow_pos hSI.2.1)
  have hdvd : ∀ i, ((g * h ^ (a - b) : Nat) : Int) ∣ W i := fun i => Int.ofNat_dvd_left.mpr (by rw [htop i]; exact Nat.dvd_mul_right _ _)
  generalize hCdef : (fun i => -((W i).tdiv ((g * h ^ (a - b) : Nat) : Int))) = C at *
  have hCW : ∀ m, W m = -((g * h ^ (a - b) : Nat) : Int) * C m := fun m => by
    rw [← hCdef]
    dsimp only
    rw [Int.neg_mul_neg, Int.mul_tdiv_cancel' (hdvd m)]
  have hCabs : ∀ m, (C m).natAbs = (Dj n0 n1 P0 P1 (b - 1) m).natAbs := fun m => by
    have h1 := htop m
    rw [hCW m, Int.natAbs_mul, Int.natAbs_neg, Int.natAbs_natCast] at h1
    exact Nat.eq_of_mul_eq_mul_left hbeta h1
  have hCz : ∀ m, b ≤ m → C m = 0 := fun m hm => by
    rw [← hCdef]
    dsimp only
    rw [hWz m hm, Int.zero_tdiv]
    rfl
  have hCbd : ∀ m, (C m).natAbs ≤ R ^ (n0 + n1 + 2 - 2 * b) := fun m => by
    rcases Nat.lt_or_ge m b with e | e
    · rw [hCabs m]
      refine Nat.le_trans (Dj_bd hP09 hP19 (by omega) hX hY) ?_
      rw [← Nat.pow_add]
      exact Nat.pow_le_pow_right hR1 (by omega)
    · rw [hCz m e]
      exact Nat.zero_le _
  have hdWl := dl_le W
  have hdC : dl C ≠ 0 := by
    have hm : dl W - 1 < 9 := by omega
    refine dl_of hm (fun e => hWn ?_)
    rw [hCW, e, Int.mul_zero]
  have hdC2 : dl C ≤ b := by
    rcases Nat.lt_or_ge b (dl C) with e | e
    · have h1 : C (dl C - 1) ≠ 0 := ln_top hdC
      exact absurd (hCz _ (by omega)) h1
    · exact e
  obtain ⟨h', hh'1⟩ : ∃ h' : Nat, (a = b ∧ h' = h) ∨ (b < a ∧ h' * h ^ (a - b - 1) = (B b).natAbs ^ (a - b)) := by
    rcases Nat.eq_or_lt_of_le hba with e | e
    · exact ⟨h, Or.inl ⟨e.symm, rfl⟩⟩
    · exact ⟨(Dj n0 n1 P0 P1 b b).natAbs, Or.inr ⟨e, si_low hSI hB e⟩⟩
  refine ⟨C, dl C - 1, (B b).natAbs, h', ((g * h ^ (a - b) : Nat) : Int), by omega, hCW, by omega, ⟨⟨hB9, fun m hm => hCz m (by omega), hdb, by omega, by omega, fun _ => by omega, by omega, fun _ => hbn1⟩, ?_, be, n0 + n1 + 2 - 2 * b, hbe, hCbd, ?_, Or.inr (by omega), fun e => e.elim⟩⟩
  · exact si_step hSI hB hBb (fun m hm => dl_zero (fun i hi => hCz i (by omega)) (by omega)) (by omega) hba (fun m => by rw [hWdef]; exact hCW m) hh'1
  · rcases hnbe with e | e
    · exact Or.inl e
    · by_cases e2 : f
      · by_cases e3 : a = b
        · exact Or.inl (hbe1 e2)
        · exact Or.inr (by omega)
      · have := hlt e2
        exact Or.inr (by omega)
