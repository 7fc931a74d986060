/-! PURE: the reference's shiftUp, halve -/
theorem fr_any {ρ τ : RS} {t k : Nat} (h : Fr ρ τ t 440) (ht : t < 227) (hk : k < 440) (v : Int64) : Fr ρ (wL τ (nI (440 * t + k)) v) t 440 := by
  refine ⟨fun m j hj hm => ?_, h.2⟩
  rw [lm_wn ht hk hj (by omega)]
  exact h.1 m j hj hm
theorem fr_up {ρ τ : RS} {t k : Nat} (h : Fr ρ τ t k) (hk : k ≤ 440) : Fr ρ τ t 440 := ⟨fun m j hj hm => h.1 m j hj (by omega), h.2⟩
theorem or_sh {a b p : Nat} (hp : p < 28) (hb : b < 268435456) : (a * 2 ^ p % 268435456) ||| (b * 2 ^ p / 268435456) = a * 2 ^ p % 268435456 + b * 2 ^ p / 268435456 ∧ a * 2 ^ p % 268435456 + b * 2 ^ p / 268435456 < 268435456 := by
  have hB : 268435456 = 2 ^ p * 2 ^ (28 - p) := by
    rw [← Nat.pow_add, show p + (28 - p) = 28 by omega]
  have h1 : a * 2 ^ p % 268435456 = 2 ^ p * (a % 2 ^ (28 - p)) := by
    rw [Nat.mul_comm a, hB, Nat.mul_mod_mul_left]
  have h2 : b * 2 ^ p / 268435456 < 2 ^ p := by
    rw [Nat.div_lt_iff_lt_mul (by omega)]
    rw [Nat.mul_comm]
    exact Nat.mul_lt_mul_of_pos_left hb (Nat.pow_pos (by omega))
  have h3 : (a * 2 ^ p % 268435456) ||| (b * 2 ^ p / 268435456) = a * 2 ^ p % 268435456 + b * 2 ^ p / 268435456 := by
    rw [h1]
    exact (Nat.two_pow_add_eq_or_of_lt h2 _).symm
  refine ⟨h3, ?_⟩
  rw [← h3]
  refine Nat.or_lt_two_pow (n := 28) (Nat.mod_lt _ (by omega)) (Nat.lt_trans h2 ?_)
  exact Nat.pow_lt_pow_right (by omega) hp
def cl (D : Nat → Nat) (p j : Nat) : Nat := D j * 2 ^ p % 268435456 + (if j = 0 then 0 else D (j - 1) * 2 ^ p / 268435456)
theorem vq_cl (D : Nat → Nat) (p m : Nat) : vq (cl D p) m + (if m = 0 then 0 else D (m - 1) * 2 ^ p / 268435456) * 268435456 ^ m = 2 ^ p * vq D m := by
  induction m with
  | zero => show 0 + 0 * _ = 2 ^ p * 0; omega
  | succ m ih =>
    rw [vq_s, vq_s, if_neg (by omega), Nat.add_sub_cancel, Nat.pow_succ]
    have h1 : cl D p m = D m * 2 ^ p % 268435456 + (if m = 0 then 0 else D (m - 1) * 2 ^ p / 268435456) := rfl
    rw [h1]
    generalize (if m = 0 then 0 else D (m - 1) * 2 ^ p / 268435456) = c at *
    have h2 := Nat.div_add_mod (D m * 2 ^ p) 268435456
    generalize D m * 2 ^ p / 268435456 = e at *
    generalize hr : D m * 2 ^ p % 268435456 = r at *
    generalize 268435456 ^ m = P at *
    grind
theorem vq_sh (G : Nat → Nat) (w m : Nat) : vq (fun i => if i < w then 0 else G (i - w)) (w + m) = 268435456 ^ w * vq G m := by
  induction m with
  | zero =>
    show vq _ w = _ * 0
    have : ∀ n, n ≤ w → vq (fun i => if i < w then 0 else G (i - w)) n = 0 := by
      intro n
      induction n with
      | zero => intro _; rfl
      | succ n ih =>
        intro h
        rw [vq_s, ih (by omega), if_pos (by omega)]
        omega
    rw [this w (Nat.le_refl _)]
    omega
  | succ m ih =>
    rw [← Nat.add_assoc, vq_s, vq_s, ih, if_neg (by omega), Nat.add_sub_cancel_left, Nat.pow_add]
    generalize 268435456 ^ w = P
    generalize 268435456 ^ m = R
    grind
theorem cl_lt {D : Nat → Nat} {p j : Nat} (hp : p < 28) (hD : ∀ j, D j < 268435456) : cl D p j < 268435456 := by
  unfold cl
  split
  · have := Nat.mod_lt (D j * 2 ^ p) (show 0 < 268435456 by omega)
    omega
  · exact (or_sh hp (hD _)).2
theorem sp_rshift {n k : Nat} {x : Int} {ρ : RS} {Q : RS → Prop} (hn : n < 227) (hk : k < 100000) (hx : RpR ρ n x) (hx0 : x ≠ 0) (hbd : (x * 2 ^ k).natAbs < 268435456 ^ 430)
    (hQ : ∀ ρ', RpR ρ' n (x * 2 ^ k) → Cr ρ ρ' (fun z => z = n) → Q ρ') : wpX5_shiftUp (nI n) (nI k) ρ Q := by
  obtain ⟨s, D0, hs, hS, hD, hT, hxv⟩ := hx.raw
  have hgx := hx.sg
  have hs0 : s ≠ 0 := fun h => by rw [h] at hxv; have : vq D0 0 = 0 := rfl; omega
  obtain ⟨w, hw⟩ : ∃ w, w = k / 28 := ⟨_, rfl⟩
  obtain ⟨p, hp⟩ : ∃ p, p = k % 28 := ⟨_, rfl⟩
  have hp28 : p < 28 := by omega
  have hkw : k = 28 * w + p := by omega
  have hxk : (x * 2 ^ k).natAbs = 268435456 ^ w * (2 ^ p * x.natAbs) := by
    rw [Int.natAbs_mul, Int.natAbs_pow, show (2 : Int).natAbs = 2 from rfl, hkw, Nat.pow_add, p28, Nat.mul_comm x.natAbs, Nat.mul_assoc]
  have hws : s + w + 1 ≤ 440 := by
    obtain ⟨u, rfl⟩ : ∃ u, s = u + 1 := ⟨s - 1, by omega⟩
    have h1 := vq_ge (hT hs0)
    rw [Nat.add_sub_cancel, ← hxv] at h1
    have h2 : 268435456 ^ w * 268435456 ^ u ≤ (x * 2 ^ k).natAbs := by
      rw [hxk]
      refine Nat.mul_le_mul_left _ (Nat.le_trans h1 ?_)
      have : 1 * x.natAbs ≤ 2 ^ p * x.natAbs := Nat.mul_le_mul_right _ (Nat.pow_pos (by omega))
      omega
    rw [← Nat.pow_add] at h2
    have h4 := (Nat.pow_lt_pow_iff_right (show 1 < 268435456 by omega)).mp (Nat.lt_of_le_of_lt h2 hbd)
    omega
  obtain ⟨D, hDe⟩ : ∃ D, D = exq D0 s := ⟨_, rfl⟩
  have hDl : ∀ j, D j < 268435456 := fun j => by rw [hDe]; exact exq_lt (dgl hD) j
  have hDv : ∀ j, j < s → lm ρ n j = lN (D j) := fun j hj => by
    rw [(hD j hj).1, hDe]
    unfold exq
    rw [if_pos hj]
  have hDs : D s = 0 := by
    rw [hDe]
    unfold exq
    rw [if_neg (by omega)]
  have hvD : x.natAbs = vq D (s + 1) := by rw [hDe, vq_exq (by omega)]; exact hxv
  show wpX5_shiftUp_0 (nI n) (nI k) Q ρ
  unfold wpX5_shiftUp_0
  rw [show (28 : Int32) = nI 28 from rfl, pk_rem (by omega) (by omega) (by omega), pk_div (by omega) (by omega) (by omega), ← hw, ← hp, nI_clamp (by omega), hS]
  intro a6 ha6 a7 ha7
  refine ⟨pk_in n _ hn, fun a8 ha8 => ?_⟩
  subst ha6 ha7 ha8
  rw [ix2]
  refine ⟨pk_in (440 * n + (s + w)) _ (by omega), fun a9 ha9 => ?_⟩
  refine lq5_i (I := fun i3 i4 i5 i6 τ => i3 = nI w ∧ i4 = nI p ∧ i5 = nI s ∧ ∃ k, k ≤ s ∧ i6 = nI k - 1 ∧ Fr ρ τ n 440 ∧ (∀ j, j < k → lm τ n j = lN (D j)) ∧ (∀ j, k < j → j ≤ s → lm τ n (j + w) = lN (cl D p j)) ∧ lm τ n (k + w) = lN (D k * 2 ^ p % 268435456)) (μ := fun _ _ _ i6 _ => (i6 + 1).toNatClampNeg) ?_ _ _ _ _ _ ⟨rfl, rfl, rfl, s, Nat.le_refl _, ha9, fr_any (fr_up (Fr.refl ρ n) (by omega)) hn (by omega) _, fun j hj => ?_, fun j h1 h2 => absurd h1 (by omega), ?_⟩
  rotate_left
  · rw [lm_we _ _ _ _ _ (by omega), if_neg (by omega)]
    exact hDv j hj
  · rw [lm_we _ _ _ _ _ (by omega), if_pos rfl, hDs, Nat.zero_mul]
    rfl
  rintro N i3 i4 i5 i6 τ ⟨rfl, rfl, rfl, k', hk', rfl, hFr, hL, hH, hM⟩ hN
  unfold wbX5_shiftUp_41
  rw [dg_lt0 (by omega)]
  refine ⟨fun h1 => ?_, fun h1 => ?_⟩
  · subst h1
    have hall : ∀ j, j ≤ s → lm τ n (j + w) = lN (cl D p j) := by
      intro j hj
      rcases Nat.eq_zero_or_pos j with e | e
      · subst e
        rw [hM]
        unfold cl
        rw [if_pos rfl, Nat.add_zero]
      · exact hH j e hj
    refine lq4_i (I := fun i3 i5 i6 τ => i3 = nI w ∧ i5 = nI s ∧ ∃ k, k ≤ w ∧ i6 = nI k ∧ Fr ρ τ n 440 ∧ (∀ j, j < k → lm τ n j = lN 0) ∧ ∀ j, j ≤ s → lm τ n (j + w) = lN (cl D p j)) (μ := fun _ _ i6 _ => w - i6.toNatClampNeg) ?_ _ _ _ _ ⟨rfl, rfl, 0, by omega, rfl, hFr, fun j hj => absurd hj (by omega), hall⟩
    clear hFr hL hH hM hall hN N τ
    rintro N i3 i5 i6 τ ⟨rfl, rfl, k', hk', rfl, hFr, hL, hH⟩ hN
    unfold wbX5_shiftUp_147
    rw [ix]
    refine pk_le w k' (fun h1 => ⟨pk_in n _ hn, ?_⟩) (fun h1 => ⟨pk_in (440 * n + k') _ (by omega), fun a3 ha3 => ?_⟩) rfl rfl (by omega) (by omega)
    · have : k' = w := by omega
      subst this
      have hG : Dg τ n (k' + (s + 1)) (fun i => if i < k' then 0 else cl D p (i - k')) := by
        intro j hj
        by_cases e : j < k'
        · show lm τ n j = lN (if j < k' then 0 else cl D p (j - k')) ∧ (if j < k' then 0 else cl D p (j - k')) < _
          rw [if_pos e]
          exact ⟨hL j e, by omega⟩
        · show lm τ n j = lN (if j < k' then 0 else cl D p (j - k')) ∧ (if j < k' then 0 else cl D p (j - k')) < _
          rw [if_neg e]
          have := hH (j - k') (by omega)
          rw [show j - k' + k' = j by omega] at this
          exact ⟨this, cl_lt hp28 hDl⟩
      have hV : (x * 2 ^ k).natAbs = vq (fun i => if i < k' then 0 else cl D p (i - k')) (k' + (s + 1)) := by
        rw [vq_sh, hxk, hvD, ← vq_cl D p (s + 1), if_neg (by omega), Nat.add_sub_cancel, hDs, Nat.zero_mul, Nat.zero_div, Nat.zero_mul, Nat.add_zero]
      refine sp_rtrim (s := k' + (s + 1)) (D := fun i => if i < k' then 0 else cl D p (i - k')) (x := x * 2 ^ k) hn ?_ (by omega) hbd hG hV ?_ (fun ρ' h2 h3 => hQ ρ' h2 ((hFr.cr.wS hn rfl _).trans h3))
      · rw [rS_wS hn, if_pos rfl, nI_add, nI_1, show s + k' + 1 = k' + (s + 1) by omega]
      · intro _
        rw [rG_wS, hFr.G, hgx]
        have h2p : (0 : Int) < 2 ^ k := Int.pow_pos (by omega)
        rcases Int.lt_trichotomy x 0 with h | h | h
        · rw [sg32_lt h, sg32_lt (Int.mul_neg_of_neg_of_pos h h2p)]
        · exact absurd h hx0
        · rw [sg32_pos h, sg32_pos (Int.mul_pos h h2p)]
    · subst ha3
      refine hN _ _ _ _ ⟨rfl, rfl, k' + 1, h1, nI_1 k', fr_any hFr hn (by omega) _, fun j hj => ?_, fun j hj => ?_⟩ ?_
      · rw [lm_we _ _ _ _ _ (by omega)]
        by_cases e : j = k'
        · rw [if_pos e]
          rfl
        · rw [if_neg e]
          exact hL j (by omega)
      · rw [lm_we _ _ _ _ _ (by omega), if_neg (by omega)]
        exact hH j hj
      · show w - (nI k' + 1).toNatClampNeg < w - (nI k').toNatClampNeg
        rw [nI_1, nI_clamp (by omega), nI_clamp (by omega)]
        omega
  · obtain ⟨u, rfl⟩ : ∃ u, k' = u + 1 := ⟨k' - 1, by omega⟩
    have e1 : nI (u + 1) - 1 = nI u := nI_pred u
    have e2 : (440 : Int32) * nI n + nI u + nI w + 1 = nI (440 * n + (u + 1 + w)) := by
      rw [ix2, nI_1, show 440 * n + (u + w) + 1 = 440 * n + (u + 1 + w) by omega]
    rw [e1, e2, ix, nI_clamp (by omega), nI_clamp (by omega)]
    have e3 : rL τ (440 * n + u) = lN (D u) := hL u (by omega)
    have e4 : rL τ (440 * n + (u + 1 + w)) = lN (D (u + 1) * 2 ^ p % 268435456) := hM
    have hDu := hDl u
    have hsh : D u * 2 ^ p < 2 ^ 62 := by
      have h5 : 2 ^ p ≤ 2 ^ 28 := Nat.pow_le_pow_right (by omega) (by omega)
      have h6 : D u * 2 ^ p ≤ 268435456 * 2 ^ 28 := Nat.mul_le_mul (by omega) h5
      omega
    refine ⟨pk_in (440 * n + u) _ (by omega), fun b5 hb5 => ?_⟩
    rw [e3] at hb5
    unfold jlshl at hb5
    rw [wb_shl _ (by omega)] at hb5
    subst hb5
    rw [e4, jl_28 (by omega)]
    have hor := or_sh (a := D (u + 1)) (b := D u) hp28 hDu
    have hml := Nat.mod_lt (D (u + 1) * 2 ^ p) (show 0 < 268435456 by omega)
    have hdl := Nat.div_le_self (D u * 2 ^ p) 268435456
    have key : ∀ v, v = lN (cl D p (u + 1)) → wpX5_shiftUp_117 (nI n) (nI k) Q N (nI w) (nI p) (nI s) (nI u) (lN (D u * 2 ^ p)) (wL τ (nI (440 * n + (u + 1 + w))) v) := by
      intro v hv
      subst hv
      unfold wpX5_shiftUp_117
      rw [ix2, jl_mask (by omega)]
      refine ⟨pk_in (440 * n + (u + w)) _ (by omega), fun a4 ha4 => ?_⟩
      subst ha4
      refine hN _ _ _ _ _ ⟨rfl, rfl, rfl, u, by omega, (Int32.sub_eq_add_neg _ _).symm, fr_any (fr_any hFr hn (by omega) _) hn (by omega) _, fun j hj => ?_, fun j h2 h3 => ?_, ?_⟩ ?_
      · rw [lm_we _ _ _ _ _ (by omega), if_neg (by omega), lm_we _ _ _ _ _ (by omega), if_neg (by omega)]
        exact hL j (by omega)
      · rw [lm_we _ _ _ _ _ (by omega), if_neg (by omega), lm_we _ _ _ _ _ (by omega)]
        by_cases e : j = u + 1
        · rw [if_pos (by omega), e]
        · rw [if_neg (by omega)]
          exact hH j (by omega) h3
      · rw [lm_we _ _ _ _ _ (by omega), if_pos rfl]
      · show (nI u + (-1) + 1).toNatClampNeg < (nI (u + 1) - 1 + 1).toNatClampNeg
        rw [m1p1, e1, nI_1, nI_clamp (by omega), nI_clamp (by omega)]
        omega
    have e5 : nI s - 1 = nI (s - 1) := deg_s hs0
    rw [e5]
    have hcl : cl D p (u + 1) = D (u + 1) * 2 ^ p % 268435456 + D u * 2 ^ p / 268435456 := by
      unfold cl
      rw [if_neg (by omega), Nat.add_sub_cancel]
    have h2 := pk_eq (x := nI u) (y := nI (s - 1)) u (s - 1) (A := vp_in (nI (440 * n + (u + 1 + w))) 99880 ∧ wpX5_shiftUp_117 (nI n) (nI k) Q N (nI w) (nI p) (nI s) (nI u) (lN (D u * 2 ^ p)) (wL τ (nI (440 * n + (u + 1 + w))) ((0 : Int64) ||| lN (D u * 2 ^ p / 268435456)))) (B := vp_in (nI (440 * n + (u + 1 + w))) 99880 ∧ (vp_in (nI (440 * n + (u + 1 + w))) 99880 ∧ wpX5_shiftUp_117 (nI n) (nI k) Q N (nI w) (nI p) (nI s) (nI u) (lN (D u * 2 ^ p)) (wL τ (nI (440 * n + (u + 1 + w))) (lN (D (u + 1) * 2 ^ p % 268435456) ||| lN (D u * 2 ^ p / 268435456))))) (fun e => ⟨pk_in (440 * n + (u + 1 + w)) _ (by omega), key _ ?_⟩) (fun e => ⟨pk_in (440 * n + (u + 1 + w)) _ (by omega), pk_in (440 * n + (u + 1 + w)) _ (by omega), key _ ?_⟩) rfl rfl (by omega) (by omega)
    · exact ⟨h2.2, h2.1⟩
    · rw [show (0 : Int64) = lN 0 from rfl, wb_or (by omega) (by omega), Nat.zero_or, hcl, show u + 1 = s by omega, hDs, Nat.zero_mul, Nat.zero_mod, Nat.zero_add]
    · rw [wb_or (by omega) (by omega), hor.1, hcl]
def hv2 (D : Nat → Nat) (k : Nat) : Nat := D k / 2 + D (k + 1) % 2 * 134217728
theorem vq_hv (D : Nat → Nat) (m : Nat) : 2 * vq (hv2 D) m + D 0 % 2 = vq D m + D m % 2 * 268435456 ^ m := by
  induction m with
  | zero => show 2 * 0 + _ = 0 + _ * 1; omega
  | succ m ih =>
    rw [vq_s, vq_s, Nat.pow_succ]
    have h1 : hv2 D m = D m / 2 + D (m + 1) % 2 * 134217728 := rfl
    have h2 := Nat.div_add_mod (D m) 2
    rw [h1]
    generalize D m / 2 = e at *
    generalize D m % 2 = f at *
    generalize D (m + 1) % 2 = g at *
    generalize 268435456 ^ m = P at *
    rw [← h2]
    grind
theorem sp_rhalve {n : Nat} {x : Int} {ρ : RS} {Q : RS → Prop} (hn : n < 227) (hx : RpR ρ n x) (hx0 : 0 ≤ x) (hQ : ∀ ρ', RpR ρ' n (x / 2) → Cr ρ ρ' (fun z => z = n) → Q ρ') : wpX5_halve (nI n) ρ Q := by
  obtain ⟨s, D0, hs, hS, hD, hT, hxv⟩ := hx.raw
  have hgx := hx.sg
  have hbx := hx.bd
  obtain ⟨D, hDe⟩ : ∃ D, D = exq D0 s := ⟨_, rfl⟩
  have hDl : ∀ j, D j < 268435456 := fun j => by rw [hDe]; exact exq_lt (dgl hD) j
  have hDv : ∀ j, j < s → lm ρ n j = lN (D j) := fun j hj => by
    rw [(hD j hj).1, hDe]
    unfold exq
    rw [if_pos hj]
  have hDs : D s = 0 := by
    rw [hDe]
    unfold exq
    rw [if_neg (by omega)]
  have hvD : x.natAbs = vq D s := by rw [hDe, vq_exq (by omega)]; exact hxv
  show wpX5_halve_0 (nI n) Q ρ
  unfold wpX5_halve_0
  refine lp_upR (I := fun k τ => Dg τ n k (hv2 D) ∧ Fr ρ τ n k) s (by omega) ?_ ρ ⟨fun j hj => absurd hj (by omega), Fr.refl _ _⟩
  rintro N k τ hk ⟨hF, hFr⟩ hN
  unfold wbX5_halve_2
  rw [nI_clamp (by omega), hFr.S, hS, nI_1]
  refine ⟨pk_in n _ hn, pk_le s k (fun h1 => ?_) (fun h1 => ⟨pk_in n _ hn, ?_⟩) rfl rfl (by omega) (by omega)⟩
  · have : k = s := by omega
    subst this
    have h2 := vq_hv D k
    rw [hDs] at h2
    refine sp_rtrim (s := k) (D := hv2 D) (x := x / 2) hn (by rw [hFr.S]; exact hS) (by omega) (by omega) hF (by omega) ?_ (fun ρ' h2 h3 => hQ ρ' h2 (hFr.cr.trans h3))
    intro h3
    rw [hFr.G, hgx, sg32_pos (by omega), sg32_pos (by omega)]
  · have e3 : rL τ (440 * n + k) = lN (D k) := (hFr.1 n k (by omega) (Or.inr (Nat.le_refl _))).trans (hDv k h1)
    have key : ∀ b, b = D (k + 1) % 2 → wpX5_halve_45 (nI n) Q N (nI k) (lN b) τ := by
      intro b hb
      unfold wpX5_halve_45
      rw [ix, nI_clamp (by omega), e3]
      refine ⟨pk_in (440 * n + k) _ (by omega), pk_in (440 * n + k) _ (by omega), fun a1 ha1 => ?_⟩
      subst ha1
      have hdk := hDl k
      have e4 : jlshr (lN (D k)) (1 : Int32) = lN (D k / 2) := jl_shr (k := 1) (by omega) (by omega)
      have e5 : jlshl (lN b) (27 : Int32) = lN (b * 134217728) := wb_shl b (k := 27) (by omega)
      have e6 : D k / 2 ||| b * 134217728 = hv2 D k := by
        have := (Nat.two_pow_add_eq_or_of_lt (i := 27) (b := D k / 2) (by omega) b).symm
        rw [Nat.or_comm, Nat.mul_comm b, show 134217728 = 2 ^ 27 from rfl, this, hb]
        show _ = D k / 2 + D (k + 1) % 2 * 134217728
        rw [Nat.mul_comm, Nat.add_comm]
      rw [e4, e5, wb_or (by omega) (by omega), e6]
      have hl : hv2 D k < 268435456 := by
        unfold hv2
        omega
      refine hN _ h1 ⟨fun j hj => ?_, hFr.step hn (by omega) _⟩
      rw [lm_we _ _ _ _ _ (by omega)]
      by_cases e : j = k
      · rw [if_pos e, e]
        exact ⟨rfl, hl⟩
      · rw [if_neg e]
        exact hF j (by omega)
    refine pk_le s (k + 1) (fun h2 => key 0 ?_) (fun h2 => ?_) rfl rfl (by omega) (by omega)
    · rw [show k + 1 = s by omega, hDs]
    · have e7 : (440 : Int32) * nI n + nI k + 1 = nI (440 * n + (k + 1)) := by rw [ix, nI_1, Nat.add_assoc]
      rw [e7, nI_clamp (by omega)]
      have e8 : rL τ (440 * n + (k + 1)) = lN (D (k + 1)) := (hFr.1 n (k + 1) (by omega) (Or.inr (by omega))).trans (hDv (k + 1) h2)
      rw [e8]
      refine ⟨pk_in (440 * n + (k + 1)) _ (by omega), fun b4 hb4 => ?_⟩
      have := hDl (k + 1)
      rw [wb_a1 (by omega)] at hb4
      subst hb4
      exact key _ rfl
