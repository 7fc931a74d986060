/-! PURE: the face: degree, signOf, words, wordOf, same -/
theorem st_degree (σ : CS) (ρ : RS) (hR : Rel σ ρ) (a1 : Int32) : wpX4_degree a1 σ (fun r σ1 => wpX5_degree a1 ρ (fun r1 ρ1 => r = r1 ∧ Rel σ1 ρ1)) := by
  have hR' := hR
  obtain ⟨c, h, hC, hF, hH⟩ := hR
  show wpX4_degree_0 a1 _ σ
  unfold wpX4_degree_0
  rcases reg_or a1 with ⟨p, hp, rfl⟩ | e
  · refine isR4_t hp ⟨fun h1 => absurd h1 (by decide), fun _ => ⟨pk_in p _ hp, ?_⟩⟩
    show wpX5_degree_0 (nI p) _ ρ
    unfold wpX5_degree_0
    refine isR5_t hp ⟨fun h1 => absurd h1 (by decide), fun _ => ⟨pk_in p _ (by omega), ?_, hR'⟩⟩
    rw [nI_clamp (by omega), (hC.1 p hp).2.2, (hF.1 p hp).2.2]
  · refine isR4_f e ⟨fun _ => ?_, fun h1 => absurd rfl h1⟩
    show wpX5_degree_0 a1 _ ρ
    unfold wpX5_degree_0
    exact isR5_f e ⟨fun _ => ⟨rfl, hR'⟩, fun h1 => absurd rfl h1⟩
theorem st_signOf (σ : CS) (ρ : RS) (hR : Rel σ ρ) (a1 a2 : Int32) : wpX4_signOf a1 a2 σ (fun r σ1 => wpX5_signOf a1 a2 ρ (fun r1 ρ1 => r = r1 ∧ Rel σ1 ρ1)) := by
  have hR' := hR
  obtain ⟨c, h, hC, hF, hH⟩ := hR
  show wpX4_signOf_0 a1 a2 _ σ
  unfold wpX4_signOf_0
  rcases reg_or a1 with ⟨p, hp, rfl⟩ | e
  · rcases pow_or a2 with ⟨i, hi, rfl⟩ | e2
    · refine isC4_t hp hi ⟨fun h1 => absurd h1 (by decide), fun _ => ⟨pk_in p _ hp, ?_⟩⟩
      rw [nI_clamp (by omega), nI_clamp (by omega), tl8 hp]
      refine ⟨pk_in i _ hi, ?_⟩
      show wpX5_signOf_0 (nI p) (nI i) _ ρ
      unfold wpX5_signOf_0
      refine isR5_t hp ⟨fun h1 => absurd h1 (by decide), fun _ => isP5_t hi ⟨fun h1 => absurd h1 (by decide), fun _ => ?_⟩⟩
      rw [at_eq, ia, nI_clamp (by omega)]
      refine ⟨pk_in (9 * p + i) _ (by omega), ?_, hR'⟩
      rw [((hC.1 p hp).1 i (by rw [tl8 hp]; exact hi)).sg, ((hF.1 p hp).1 i hi).sg]
    · refine isC4_f2 hp e2 ⟨fun _ => ?_, fun h1 => absurd rfl h1⟩
      show wpX5_signOf_0 (nI p) a2 _ ρ
      unfold wpX5_signOf_0 wpX5_signOf_27
      exact isR5_t hp ⟨fun h1 => absurd h1 (by decide), fun _ => isP5_f e2 ⟨fun _ => ⟨rfl, hR'⟩, fun h1 => absurd rfl h1⟩⟩
  · refine isC4_f1 e ⟨fun _ => ?_, fun h1 => absurd rfl h1⟩
    show wpX5_signOf_0 a1 a2 _ ρ
    unfold wpX5_signOf_0 wpX5_signOf_27
    exact isR5_f e ⟨fun _ => ⟨rfl, hR'⟩, fun h1 => absurd rfl h1⟩
theorem p31 (n : Nat) : 2147483648 ^ n = 2 ^ (31 * n) := by rw [Nat.pow_mul]
/-- digits of 31 bits, counted by bits -/
theorem wd_cnt {σ : CS} {w b : Nat} {x : Int} (h : RpW σ w x) (hB : Bits x.natAbs b) : cS σ w = nI ((b + 30) / 31) := by
  obtain ⟨n, h1, h2, h3, h4, h5, h6⟩ := h
  rw [h2]
  congr 1
  rcases Nat.eq_zero_or_pos n with e | e
  · subst e
    have : x.natAbs = 0 := by rw [h5]; rfl
    rw [hB.2.2 this]
  · obtain ⟨u, rfl⟩ : ∃ u, n = u + 1 := ⟨n - 1, by omega⟩
    have k1 := mag_ge h3 (h4 (by omega))
    have k2 := mag_lt (cF σ w) (u + 1)
    rw [← h5, p31] at k1 k2
    have k3 := hB.gt k1
    have k4 := hB.le k2
    omega
theorem st_words (σ : CS) (ρ : RS) (hR : Rel σ ρ) (a1 a2 : Int32) : wpX4_words a1 a2 σ (fun r σ1 => wpX5_words a1 a2 ρ (fun r1 ρ1 => r = r1 ∧ Rel σ1 ρ1)) := by
  have hR' := hR
  obtain ⟨c, h, hC, hF, hH⟩ := hR
  show wpX4_words_0 a1 a2 _ σ
  unfold wpX4_words_0
  rcases reg_or a1 with ⟨p, hp, rfl⟩ | e
  · rcases pow_or a2 with ⟨i, hi, rfl⟩ | e2
    · refine isC4_t hp hi ⟨fun h1 => absurd h1 (by decide), fun _ => ⟨pk_in p _ hp, ?_⟩⟩
      rw [nI_clamp (by omega), nI_clamp (by omega), tl8 hp]
      refine ⟨pk_in i _ hi, ?_⟩
      show wpX5_words_0 (nI p) (nI i) _ ρ
      unfold wpX5_words_0
      refine isR5_t hp ⟨fun h1 => absurd h1 (by decide), fun _ => isP5_t hi ⟨fun h1 => absurd h1 (by decide), fun _ => ?_⟩⟩
      rw [at_eq, ia]
      refine sp_rbits (by omega) ((hF.1 p hp).1 i hi) (fun b hb hB => ⟨?_, hR'⟩)
      rw [wd_cnt ((hC.1 p hp).1 i (by rw [tl8 hp]; exact hi)) hB, show (30 : Int32) = nI 30 from rfl, nI_add, show (31 : Int32) = nI 31 from rfl, pk_div (by omega) (by omega) (by omega)]
    · refine isC4_f2 hp e2 ⟨fun _ => ?_, fun h1 => absurd rfl h1⟩
      show wpX5_words_0 (nI p) a2 _ ρ
      unfold wpX5_words_0 wpX5_words_32
      exact isR5_t hp ⟨fun h1 => absurd h1 (by decide), fun _ => isP5_f e2 ⟨fun _ => ⟨rfl, hR'⟩, fun h1 => absurd rfl h1⟩⟩
  · refine isC4_f1 e ⟨fun _ => ?_, fun h1 => absurd rfl h1⟩
    show wpX5_words_0 a1 a2 _ ρ
    unfold wpX5_words_0 wpX5_words_32
    exact isR5_f e ⟨fun _ => ⟨rfl, hR'⟩, fun h1 => absurd rfl h1⟩
theorem vq_dig {D : Nat → Nat} (hD : ∀ j, D j < 268435456) : ∀ (s m : Nat), vq D s / 268435456 ^ m % 268435456 = if m < s then D m else 0 := by
  intro s
  induction s with
  | zero =>
    intro m
    rw [if_neg (by omega)]
    show 0 / _ % _ = 0
    rw [Nat.zero_div, Nat.zero_mod]
  | succ s ih =>
    intro m
    rw [vq_s]
    have hl := vq_lt (D := D) (s := s) (fun j _ => hD j)
    have hP : 0 < 268435456 ^ m := Nat.pow_pos (by omega)
    rcases Nat.lt_trichotomy m s with e | e | e
    · rw [if_pos (by omega)]
      have h1 := ih m
      rw [if_pos e] at h1
      have h2 : D s * 268435456 ^ s = 268435456 ^ m * (268435456 * (D s * 268435456 ^ (s - m - 1))) := by
        rw [show s = m + 1 + (s - m - 1) by omega, Nat.pow_add, Nat.pow_succ, show m + 1 + (s - m - 1) - m - 1 = s - m - 1 by omega]
        generalize 268435456 ^ m = P
        generalize 268435456 ^ (s - m - 1) = R
        grind
      rw [h2, Nat.add_mul_div_left _ _ hP, Nat.add_mul_mod_self_left, h1]
    · subst e
      rw [if_pos (by omega), Nat.mul_comm, Nat.add_mul_div_left _ _ hP, Nat.div_eq_of_lt hl, Nat.zero_add, Nat.mod_eq_of_lt (hD m)]
    · rw [if_neg (by omega)]
      have h3 : vq D s + D s * 268435456 ^ s < 268435456 ^ m := by
        have h4 : vq D (s + 1) < 268435456 ^ (s + 1) := vq_lt (fun j _ => hD j)
        rw [vq_s] at h4
        exact Nat.lt_of_lt_of_le h4 (Nat.pow_le_pow_right (by omega) (by omega))
      rw [Nat.div_eq_of_lt h3, Nat.zero_mod]
theorem bit_of {X d m p : Nat} (hp : p < 28) (h : X / 268435456 ^ m % 268435456 = d) : X / 2 ^ (28 * m + p) % 2 = d / 2 ^ p % 2 := by
  have hB : 268435456 = 2 ^ p * (2 * 2 ^ (27 - p)) := by
    rw [← Nat.pow_add_one', ← Nat.pow_add, show p + (27 - p + 1) = 28 by omega]
  rw [Nat.pow_add, ← p28, ← Nat.div_div_eq_div_mul, ← h]
  generalize X / 268435456 ^ m = y
  rw [hB, Nat.mod_mul_right_div_self, Nat.mod_mul_right_mod]
theorem nI_or {a b : Nat} (ha : a < 2 ^ 32) (hb : b < 2 ^ 32) : nI a ||| nI b = nI (a ||| b) := by
  apply Int32.toBitVec_inj.mp
  apply BitVec.eq_of_toNat_eq
  rw [Int32.toBitVec_or, BitVec.toNat_or, pk_tn ha, pk_tn hb, pk_tn (Nat.or_lt_two_pow ha hb)]
theorem mag_dgt (f : Nat → Int32) : ∀ (n j : Nat), j < n → mag f n / 2147483648 ^ j % 2147483648 = dg f j := by
  intro n
  induction n with
  | zero => intro j hj; omega
  | succ n ih =>
    intro j hj
    rw [mag_s]
    have hP : 0 < 2147483648 ^ j := Nat.pow_pos (by omega)
    rcases Nat.eq_or_lt_of_le (Nat.le_of_lt_succ hj) with e | e
    · subst e
      rw [Nat.mul_comm, Nat.add_mul_div_left _ _ hP, Nat.div_eq_of_lt (mag_lt f j), Nat.zero_add, Nat.mod_eq_of_lt (dg_lt f j)]
    · have h2 : dg f n * 2147483648 ^ n = 2147483648 ^ j * (2147483648 * (dg f n * 2147483648 ^ (n - j - 1))) := by
        rw [show n = j + 1 + (n - j - 1) by omega, Nat.pow_add, Nat.pow_succ, show j + 1 + (n - j - 1) - j - 1 = n - j - 1 by omega]
        generalize 2147483648 ^ j = P
        generalize 2147483648 ^ (n - j - 1) = R
        grind
      rw [h2, Nat.add_mul_div_left _ _ hP, Nat.add_mul_mod_self_left, ih j e]
theorem bits_next {X e k : Nat} : X / 2 ^ (e + k) % 2 ^ (31 - k) = 2 * (X / 2 ^ (e + k + 1) % 2 ^ (31 - (k + 1))) + X / 2 ^ (e + k) % 2 ∨ 31 ≤ k := by
  rcases Nat.lt_or_ge k 31 with h | h
  · left
    have h1 : X / 2 ^ (e + k + 1) = X / 2 ^ (e + k) / 2 := by rw [Nat.pow_succ, Nat.div_div_eq_div_mul]
    rw [h1, show 31 - k = (31 - (k + 1)) + 1 by omega, Nat.pow_succ, Nat.mul_comm (2 ^ _) 2, Nat.mod_mul]
    omega
  · right; exact h
/-- the word loop of the reference -/
theorem sp_rwordOf {n j : Nat} {x : Int} {x1 x2 : Int32} {ρ : RS} {Q : Int32 → RS → Prop} (hn : n < 227) (hj : j < 20) (hx : RpR ρ n x) (hQ : Q (nI (x.natAbs / 2 ^ (31 * j) % 2147483648)) ρ) : ∃ m, lq4 (wbX5_wordOf_30 x1 x2 (nI j) Q) m (nI n) (0 : Int32) (30 : Int32) ρ := by
  obtain ⟨s, D0, hs, hS, hD, hT, hxv⟩ := hx.raw
  obtain ⟨D, hDe⟩ : ∃ D, D = exq D0 s := ⟨_, rfl⟩
  have hDl : ∀ j, D j < 268435456 := fun j => by rw [hDe]; exact exq_lt (dgl hD) j
  have hvD : x.natAbs = vq D s := by rw [hDe, vq_exq (by omega)]; exact hxv
  generalize hX : x.natAbs = X at *
  refine lq4_i (I := fun i4 i5 i6 τ => τ = ρ ∧ i4 = nI n ∧ ∃ k, k ≤ 31 ∧ i6 = nI k - 1 ∧ i5 = nI (X / 2 ^ (31 * j + k) % 2 ^ (31 - k))) (μ := fun _ _ i6 _ => (i6 + 1).toNatClampNeg) ?_ _ _ _ _ ⟨rfl, rfl, 31, by omega, rfl, by rw [Nat.sub_self, Nat.pow_zero, Nat.mod_one]; rfl⟩
  rintro N i4 i5 i6 τ ⟨rfl, rfl, k, hk, rfl, rfl⟩ hN
  unfold wbX5_wordOf_30
  rw [dg_lt0 (by omega)]
  refine ⟨fun h1 => ?_, fun h1 a3 ha3 => ⟨pk_in n _ hn, ?_⟩⟩
  · subst h1
    exact hQ
  · obtain ⟨u, rfl⟩ : ∃ u, k = u + 1 := ⟨k - 1, by omega⟩
    rw [nI_pred, show (31 : Int32) = nI 31 from rfl, pk_mul, nI_add] at ha3
    subst ha3
    have e1 : nI (31 * j + u) / (28 : Int32) = nI ((31 * j + u) / 28) := pk_div (d := 28) (by omega) (by omega) (by omega)
    have e2 : nI (31 * j + u) - nI (31 * j + u) / (28 : Int32) * (28 : Int32) = nI ((31 * j + u) % 28) := pk_rem (d := 28) (by omega) (by omega) (by omega)
    rw [e1, nI_pred, nI_clamp (by omega), hS, ix]
    generalize hm : (31 * j + u) / 28 = m at *
    have hm2 : m < 40 := by omega
    generalize hp : (31 * j + u) % 28 = p at *
    have hmp : 31 * j + u = 28 * m + p := by omega
    have key : ∀ l8, l8 = lN (if m < s then D m else 0) → wpX5_wordOf_82 x1 x2 (nI j) Q N (nI n) (nI (X / 2 ^ (31 * j + (u + 1)) % 2 ^ (31 - (u + 1)))) (nI u) (nI (31 * j + u)) l8 τ := by
      intro l8 hl8
      unfold wpX5_wordOf_82
      rw [e2]
      have hdg := vq_dig hDl s m
      rw [← hvD] at hdg
      rw [← hdg] at hl8
      have hbit := bit_of (X := X) (m := m) (p := p) (by omega) rfl
      rw [← hmp] at hbit
      have hlt := Nat.mod_lt (X / 268435456 ^ m) (show 0 < 268435456 by omega)
      generalize hdd : X / 268435456 ^ m % 268435456 = d at *
      subst hl8
      have hpw : d / 2 ^ p ≤ d := Nat.div_le_self _ _
      rw [jl_shr (by omega) (by omega), wb_a1 (by omega), lN_i, ← hbit]
      have hbn := (bits_next (X := X) (e := 31 * j) (k := u)).resolve_right (by omega)
      have hV : X / 2 ^ (31 * j + (u + 1)) % 2 ^ (31 - (u + 1)) < 2 ^ (31 - (u + 1)) := Nat.mod_lt _ (Nat.pow_pos (by omega))
      have hV2 : 2 ^ (31 - (u + 1)) ≤ 2 ^ 30 := Nat.pow_le_pow_right (by omega) (by omega)
      rw [show 31 * j + u + 1 = 31 * j + (u + 1) by omega] at hbn
      generalize X / 2 ^ (31 * j + (u + 1)) % 2 ^ (31 - (u + 1)) = V at *
      have hb2 := Nat.mod_lt (X / 2 ^ (31 * j + u)) (show 0 < 2 by omega)
      generalize hbb : X / 2 ^ (31 * j + u) % 2 = bb at *
      have e3 : nI V <<< ((1 : Int32) &&& 31) = nI (V * 2) := pk_shlN _ 1 (by decide) (by omega)
      have e4 : V * 2 ||| bb = 2 * V + bb := by
        have := (Nat.two_pow_add_eq_or_of_lt (i := 1) (b := bb) (by omega) V).symm
        rw [Nat.mul_comm V 2]
        exact this
      rw [e3, nI_or (by omega) (by omega), e4, ← hbn]
      intro a1 ha1 a2 ha2
      subst ha1 ha2
      refine hN _ _ _ _ ⟨rfl, rfl, u, by omega, (Int32.sub_eq_add_neg _ _).symm, rfl⟩ ?_
      show (nI u + (-1) + 1).toNatClampNeg < (nI (u + 1) - 1 + 1).toNatClampNeg
      rw [m1p1, nI_pred, nI_1, nI_clamp (by omega), nI_clamp (by omega)]
      omega
    refine pk_le s m (fun h2 => key _ (by rw [if_neg (by omega)]; rfl)) (fun h2 => ⟨pk_in (440 * n + m) _ (by omega), fun b4 hb4 => key _ ?_⟩) rfl rfl (by omega) (by omega)
    rw [hb4, nI_clamp (by omega), if_pos h2, hDe]
    unfold exq
    rw [if_pos h2]
    exact (hD m h2).1
theorem st_wordOf (σ : CS) (ρ : RS) (hR : Rel σ ρ) (a1 a2 a3 : Int32) : wpX4_wordOf a1 a2 a3 σ (fun r σ1 => wpX5_wordOf a1 a2 a3 ρ (fun r1 ρ1 => r = r1 ∧ Rel σ1 ρ1)) := by
  have hR' := hR
  obtain ⟨c, h, hC, hF, hH⟩ := hR
  show wpX4_wordOf_0 a1 a2 a3 _ σ
  unfold wpX4_wordOf_0 wpX4_wordOf_30
  have m1 : ∀ j : Int32, ¬ j < 0 → ¬ j < (-1 : Int32) := fun j h1 h2 => h1 (Int32.lt_trans h2 (by decide))
  have bad : ∀ (Q0 : Int32 → RS → Prop), Q0 (-1) ρ → (∀ Q2 : Int32 → RS → Prop, Q2 (-1) ρ → wpX5_words a1 a2 ρ Q2) → wpX5_wordOf a1 a2 a3 ρ Q0 := by
    intro Q0 q1 q2
    show wpX5_wordOf_0 a1 a2 a3 Q0 ρ
    unfold wpX5_wordOf_0 wpX5_wordOf_14
    exact ⟨fun _ => q1, fun h1 => q2 _ ⟨fun h2 => absurd h2 (m1 a3 h1), fun _ => q1⟩⟩
  rcases reg_or a1 with ⟨p, hp, rfl⟩ | e
  · rcases pow_or a2 with ⟨i, hi, rfl⟩ | e2
    · have hw := (hC.1 p hp).1 i (by rw [tl8 hp]; exact hi)
      have hr := (hF.1 p hp).1 i hi
      have hw' := hw
      obtain ⟨n, n1, n2, n3, n4, n5, n6⟩ := hw'
      have hcap : capW (16 * p + i) = 6 := by unfold capW; rw [if_pos (by omega)]
      rw [hcap] at n1
      have bits : ∀ (Q2 : Int32 → RS → Prop), Q2 (nI n) ρ → wpX5_words (nI p) (nI i) ρ Q2 := by
        intro Q2 q2
        show wpX5_words_0 (nI p) (nI i) _ ρ
        unfold wpX5_words_0
        refine isR5_t hp ⟨fun h1 => absurd h1 (by decide), fun _ => isP5_t hi ⟨fun h1 => absurd h1 (by decide), fun _ => ?_⟩⟩
        rw [at_eq, ia]
        refine sp_rbits (by omega) hr (fun b hb hB => ?_)
        have := wd_cnt hw hB
        rw [n2] at this
        rw [show (30 : Int32) = nI 30 from rfl, nI_add, show (31 : Int32) = nI 31 from rfl, pk_div (by omega) (by omega) (by omega), ← this]
        exact q2
      refine isC4_t hp hi ⟨fun h1 => absurd h1 (by decide), fun _ => ⟨fun h2 => ?_, fun h2 => ⟨pk_in p _ hp, ?_⟩⟩⟩
      · show wpX5_wordOf_0 (nI p) (nI i) a3 _ ρ
        unfold wpX5_wordOf_0 wpX5_wordOf_14
        exact ⟨fun _ => ⟨rfl, hR'⟩, fun h3 => absurd h2 h3⟩
      · rw [nI_clamp (by omega), nI_clamp (by omega), tl8 hp, n2, hcap]
        refine ⟨pk_in i _ hi, fun h3 => ?_, fun h3 => ?_⟩
        · obtain ⟨j, hj, rfl⟩ := nI_of h2
          have hjn : j < n := (nI_ltI (by omega) (by omega)).mp h3
          rw [nI_clamp (by omega)]
          refine ⟨pk_in p _ hp, pk_in i _ hi, pk_in j _ (by omega), ?_⟩
          show wpX5_wordOf_0 (nI p) (nI i) (nI j) _ ρ
          unfold wpX5_wordOf_0
          refine ⟨fun h4 => absurd h4 h2, fun _ => bits _ ⟨fun _ => ?_, fun h4 => absurd h3 h4⟩⟩
          rw [at_eq, ia]
          refine sp_rwordOf (by omega) (by omega) hr ⟨?_, hR'⟩
          rw [n5, ← p31, mag_dgt _ _ _ hjn]
          exact n3 j hjn
        · show wpX5_wordOf_0 (nI p) (nI i) a3 _ ρ
          unfold wpX5_wordOf_0 wpX5_wordOf_14
          exact ⟨fun h4 => absurd h4 h2, fun _ => bits _ ⟨fun h4 => absurd h4 h3, fun _ => ⟨rfl, hR'⟩⟩⟩
    · refine isC4_f2 hp e2 ⟨fun _ => bad _ ⟨rfl, hR'⟩ (fun Q2 q2 => ?_), fun h1 => absurd rfl h1⟩
      show wpX5_words_0 (nI p) a2 _ ρ
      unfold wpX5_words_0 wpX5_words_32
      exact isR5_t hp ⟨fun h1 => absurd h1 (by decide), fun _ => isP5_f e2 ⟨fun _ => q2, fun h1 => absurd rfl h1⟩⟩
  · refine isC4_f1 e ⟨fun _ => bad _ ⟨rfl, hR'⟩ (fun Q2 q2 => ?_), fun h1 => absurd rfl h1⟩
    show wpX5_words_0 a1 a2 _ ρ
    unfold wpX5_words_0 wpX5_words_32
    exact isR5_f e ⟨fun _ => q2, fun h1 => absurd rfl h1⟩
theorem st_same (σ : CS) (ρ : RS) (hR : Rel σ ρ) (a1 a2 : Int32) : wpX4_same a1 a2 σ (fun r σ1 => wpX5_same a1 a2 ρ (fun r1 ρ1 => r = r1 ∧ Rel σ1 ρ1)) := by
  have hR' := hR
  obtain ⟨c, h, hC, hF, hH⟩ := hR
  show wpX4_same_0 a1 a2 _ σ
  unfold wpX4_same_0 wpX4_same_36
  rcases reg_or a1 with ⟨p, hp, rfl⟩ | e
  · refine isR4_t hp ⟨fun h1 => absurd h1 (by decide), fun _ => ?_⟩
    rcases reg_or a2 with ⟨q, hq, rfl⟩ | e2
    · refine isR4_t hq ⟨fun h1 => absurd h1 (by decide), fun _ => ⟨pk_in p _ hp, pk_in q _ hq, ?_⟩⟩
      rw [nI_clamp (by omega), nI_clamp (by omega)]
      refine sp_pisLike (hC.1 p hp) (hC.1 q hq) (fun r hr => ?_)
      have ref : ∀ r : Int32, (r = 1 ∧ c p = c q) ∨ (r = 0 ∧ c p ≠ c q) → wpX5_same (nI p) (nI q) ρ (fun r1 ρ1 => r = r1 ∧ Rel σ ρ1) := by
        intro r hr
        show wpX5_same_0 (nI p) (nI q) _ ρ
        unfold wpX5_same_0
        refine isR5_t hp ⟨fun h1 => absurd h1 (by decide), fun _ => isR5_t hq ⟨fun _ => ?_, fun h1 => absurd h1 (by decide)⟩⟩
        refine lq3_i (I := fun i3 i4 τ => τ = ρ ∧ ∃ k, k ≤ 9 ∧ i4 = nI k ∧ ((i3 = 1 ∧ ∀ i, i < k → c p i = c q i) ∨ (i3 = 0 ∧ c p ≠ c q))) (μ := fun _ i4 _ => 9 - i4.toNatClampNeg) ?_ _ _ _ ⟨rfl, 0, by omega, rfl, Or.inl ⟨rfl, fun i hi => absurd hi (by omega)⟩⟩
        rintro N i3 i4 τ ⟨rfl, k, hk, rfl, hcase⟩ hN
        unfold wbX5_same_21
        refine pk_le 9 k (fun h1 => ?_) (fun h1 => ?_) rfl rfl (by omega) (by omega)
        · have : k = 9 := by omega
          subst this
          rcases hcase with ⟨rfl, hall⟩ | ⟨rfl, hne⟩
          · refine ⟨rfl, ?_, hR'⟩
            rcases hr with ⟨e, _⟩ | ⟨_, e⟩
            · exact e
            · exfalso
              apply e
              funext i
              rcases Nat.lt_or_ge i 9 with e3 | e3
              · exact hall i e3
              · rw [(hF.1 p hp).2.1 i e3, (hF.1 q hq).2.1 i e3]
          · refine ⟨rfl, ?_, hR'⟩
            rcases hr with ⟨_, e⟩ | ⟨e, _⟩
            · exact absurd e hne
            · exact e
        · have hnx : ∀ i3 : Int32, ((i3 = 1 ∧ ∀ i, i < k + 1 → c p i = c q i) ∨ (i3 = 0 ∧ c p ≠ c q)) → wpX5_same_82 (nI p) (nI q) (fun r1 ρ1 => r = r1 ∧ Rel σ ρ1) N i3 (nI k) τ := by
            intro i3 h2
            unfold wpX5_same_82
            intro a1 ha1
            subst ha1
            refine hN _ _ _ ⟨rfl, k + 1, by omega, nI_1 k, h2⟩ ?_
            show 9 - (nI k + 1).toNatClampNeg < 9 - (nI k).toNatClampNeg
            rw [nI_1, nI_clamp (by omega), nI_clamp (by omega)]
            omega
          unfold wpX5_same_80
          rcases hcase with ⟨rfl, hall⟩ | ⟨rfl, hne⟩
          · refine ⟨fun h2 => absurd h2 (by decide), fun _ => ?_⟩
            have r1 := (hF.1 p hp).1 k (by omega)
            have r2 := (hF.1 q hq).1 k (by omega)
            rw [at_eq, at_eq, ia, ia, nI_clamp (by omega), nI_clamp (by omega), r1.sg, r2.sg]
            refine ⟨pk_in (9 * p + k) _ (by omega), pk_in (9 * q + k) _ (by omega), fun h2 => hnx 0 (Or.inr ⟨rfl, fun e => h2 (by rw [e])⟩), fun h2 => ?_⟩
            rw [at_eq, at_eq, ia, ia]
            refine sp_compareSizes (by omega) (by omega) r1 r2 ?_
            rw [cmp32_0]
            refine ⟨fun h3 => hnx 0 (Or.inr ⟨rfl, fun e => h3 (by rw [e])⟩), fun h3 => hnx 1 (Or.inl ⟨rfl, fun i hi => ?_⟩)⟩
            rcases Nat.eq_or_lt_of_le (Nat.le_of_lt_succ hi) with e3 | e3
            · rw [e3]
              have := sg32_iff h2
              omega
            · exact hall i e3
          · exact ⟨fun _ => hnx 0 (Or.inr ⟨rfl, hne⟩), fun h2 => absurd rfl h2⟩
      rcases hr with ⟨e, e3⟩ | ⟨e, e3⟩
      · subst e
        exact ⟨fun h1 => absurd h1 (by decide), fun _ => ref 1 (Or.inl ⟨rfl, e3⟩)⟩
      · subst e
        exact ⟨fun _ => ref 0 (Or.inr ⟨rfl, e3⟩), fun h1 => absurd rfl h1⟩
    · refine isR4_f e2 ⟨fun _ => ?_, fun h1 => absurd rfl h1⟩
      show wpX5_same_0 (nI p) a2 _ ρ
      unfold wpX5_same_0 wpX5_same_14
      exact isR5_t hp ⟨fun h1 => absurd h1 (by decide), fun _ => isR5_f e2 ⟨fun h1 => absurd rfl h1, fun _ => ⟨rfl, hR'⟩⟩⟩
  · refine isR4_f e ⟨fun _ => ?_, fun h1 => absurd rfl h1⟩
    show wpX5_same_0 a1 a2 _ ρ
    unfold wpX5_same_0 wpX5_same_14
    exact isR5_f e ⟨fun _ => ⟨rfl, hR'⟩, fun h1 => absurd rfl h1⟩
