/-! PURE: the face: shift -/
def hst (t : Int) (W : Row) (ck : Int) (i : Nat) : Int := W i * t + shf 1 W i + (if i = 0 then ck else 0)
def hor (t : Int) (c : Row) : Nat → Row → Row
  | 0, W => W
  | k + 1, W => hor t c k (hst t W (c k))
theorem hst_top {t ck : Int} {W : Row} {m : Nat} (h : ∀ i, m ≤ i → W i = 0) : ∀ i, m + 1 ≤ i → hst t W ck i = 0 := by
  intro i hi
  unfold hst shf
  rw [h i (by omega), if_pos (by omega), h (i - 1) (by omega), if_neg (by omega), Int.zero_mul]
  rfl
theorem hor_top {t : Int} {c : Row} : ∀ (k : Nat) {W : Row} {m : Nat}, (∀ i, m ≤ i → W i = 0) → ∀ i, m + k ≤ i → hor t c k W i = 0 := by
  intro k
  induction k with
  | zero => intro W m h i hi; exact h i hi
  | succ k ih => intro W m h i hi; exact ih (hst_top h) i (by omega)
theorem hst_ev {t s ck : Int} {W : Row} (h8 : ∀ i, 8 ≤ i → W i = 0) : hsum (hst t W ck) s 9 0 = hsum W s 9 0 * (s + t) + ck := by
  have e1 : hsum (hst t W ck) s 9 0 = hsum (fun m => t * W m) s 9 0 + hsum (shf 1 W) s 9 0 + hsum (fun m => if m = 0 then ck else 0) s 9 0 := by
    rw [← hs_add, ← hs_add]
    congr 1
    funext m
    unfold hst
    rw [Int.mul_comm]
  have e2 : hsum (shf 1 W) s 9 0 = s * hsum W s 9 0 := by
    rw [hs_s, show shf 1 W 0 = 0 from rfl, hs_shf1, hs_ext (k := 8) (k2 := 9) (by omega) (fun i hi => h8 i (by omega))]
    omega
  have e3 : hsum (fun m => if m = 0 then ck else 0) s 9 0 = ck := by
    rw [hs_s, hs_zero (fun i hi => if_neg (by omega)), if_pos rfl]
    omega
  rw [e1, hs_mul, e2, e3]
  grind
theorem hor_ev {t s : Int} {c : Row} : ∀ (k : Nat) {W : Row} {m : Nat}, (∀ i, m ≤ i → W i = 0) → m + k ≤ 9 → hsum (hor t c k W) s 9 0 = hsum W s 9 0 * (s + t) ^ k + hsum c (s + t) k 0 := by
  intro k
  induction k with
  | zero =>
    intro W m h hm
    rw [Int.pow_zero, Int.mul_one, show hsum c (s + t) 0 0 = 0 from rfl, Int.add_zero]
    rfl
  | succ k ih =>
    intro W m h hm
    show hsum (hor t c k (hst t W (c k))) s 9 0 = _
    rw [ih (m := m + 1) (hst_top h) (by omega), hst_ev (fun i hi => h i (by omega)), hs_snoc c (s + t) k 0, Nat.zero_add, Int.pow_succ (s + t) k]
    generalize (s + t) ^ k = P
    generalize hsum c (s + t) k 0 = H
    generalize hsum W s 9 0 = V
    clear ih h
    grind
theorem hs_congr {F G : Row} {s : Int} : ∀ (k i j : Nat), (∀ m, m < k → F (i + m) = G (j + m)) → hsum F s k i = hsum G s k j := by
  intro k
  induction k with
  | zero => intro i j _; rfl
  | succ k ih =>
    intro i j h
    rw [hs_s, hs_s, ih (i + 1) (j + 1) (fun m hm => by have := h (m + 1) (by omega); rw [show i + 1 + m = i + (m + 1) by omega, show j + 1 + m = j + (m + 1) by omega]; exact this)]
    have := h 0 (by omega)
    rw [Nat.add_zero, Nat.add_zero] at this
    rw [this]
theorem mv_ev {t x : Int} {n : Nat} {c : Row} : ∀ k, k ≤ n - 1 → hsum c x n 0 = hsum (mvN t n c k) (x - t) k 0 + (x - t) ^ k * hsum (mvN t n c k) x (n - k) k := by
  intro k
  induction k with
  | zero =>
    intro _
    rw [Int.pow_zero, Int.one_mul, show hsum (mvN t n c 0) (x - t) 0 0 = 0 from rfl, Int.zero_add]
    rfl
  | succ k ih =>
    intro hk
    rw [ih (by omega)]
    show _ = hsum (mvr t n (mvN t n c k) k) (x - t) (k + 1) 0 + (x - t) ^ (k + 1) * hsum (mvr t n (mvN t n c k) k) x (n - (k + 1)) (k + 1)
    generalize mvN t n c k = W
    have e1 : hsum (mvr t n W k) (x - t) (k + 1) 0 = hsum W (x - t) k 0 + (x - t) ^ k * hsum W t (n - k) k := by
      rw [hs_snoc, Nat.zero_add]
      congr 1
      · refine hs_congr k 0 0 (fun m hm => ?_)
        unfold mvr
        rw [if_neg (by omega)]
      · unfold mvr
        rw [if_pos ⟨Nat.le_refl _, by omega⟩]
    have e2 := sd_val W x t (n - k) k
    rw [show k + (n - k) = n by omega] at e2
    have e3 : hsum (sd W t n) x (n - k - 1) k = hsum (mvr t n W k) x (n - (k + 1)) (k + 1) := by
      rw [show n - (k + 1) = n - k - 1 by omega]
      refine hs_congr (n - k - 1) k (k + 1) (fun m hm => ?_)
      unfold mvr sd
      rw [if_pos ⟨by omega, by omega⟩, show k + m + 1 = k + 1 + m by omega]
    rw [e1, e2, e3, Int.pow_succ]
    grind
theorem mv_top {t : Int} {n : Nat} {c : Row} (h : ∀ i, n ≤ i → c i = 0) : ∀ k i, n ≤ i → mvN t n c k i = 0 := by
  intro k
  induction k with
  | zero => exact h
  | succ k ih =>
    intro i hi
    show mvr t n (mvN t n c k) k i = 0
    unfold mvr
    rw [if_neg (by omega)]
    exact ih i hi
theorem val_inj {P Q : Row} (hP : ∀ i, 9 ≤ i → P i = 0) (hQ : ∀ i, 9 ≤ i → Q i = 0) (h : ∀ s, hsum P s 9 0 = hsum Q s 9 0) : P = Q := by
  by_cases e : ∃ i, P i + -1 * Q i ≠ 0
  · exfalso
    have := rc (n := 9) (F := fun m => P m + -1 * Q m) (ts := pts) (fun i hi => by show P i + -1 * Q i = 0; rw [hP i hi, hQ i hi]; rfl) e pts_nd (fun t _ => by
      rw [hs_add (fun m => P m) (fun m => -1 * Q m), hs_mul, h t]
      omega)
    exact absurd this (by decide)
  · funext i
    have : ¬ (P i + -1 * Q i ≠ 0) := fun z => e ⟨i, z⟩
    omega
theorem hor_mv {t : Int} {c : Row} (h9 : ∀ i, 9 ≤ i → c i = 0) : hor t c (dl c) (fun _ => 0) = mvN t (dl c) c (dl c - 1) := by
  have hd := dl_le c
  rcases Nat.eq_zero_or_pos (dl c) with e | e
  · rw [e]
    funext i
    show (0 : Int) = c i
    rw [dl_zero h9 (by omega)]
  · refine val_inj (fun i hi => hor_top (dl c) (m := 0) (fun _ _ => rfl) i (by omega)) (fun i hi => mv_top (fun j hj => dl_zero h9 hj) _ i (by omega)) (fun s => ?_)
    rw [hor_ev (m := 0) (dl c) (fun _ _ => rfl) (by omega), hs_zero (fun _ _ => rfl), Int.zero_mul, Int.zero_add]
    have h1 := mv_ev (t := t) (x := s + t) (n := dl c) (c := c) (dl c - 1) (Nat.le_refl _)
    rw [show s + t - t = s by omega, show dl c - (dl c - 1) = 1 by omega, hs_s, show ∀ j, hsum (mvN t (dl c) c (dl c - 1)) (s + t) 0 j = 0 from fun _ => rfl, Int.mul_zero, Int.add_zero] at h1
    have h2 := hs_snoc (mvN t (dl c) c (dl c - 1)) s (dl c - 1) 0
    rw [Nat.zero_add] at h2
    rw [h1, ← h2, show dl c - 1 + 1 = dl c by omega]
    exact (hs_ext hd (fun i hi => mv_top (fun j hj => dl_zero h9 hj) _ i (by omega))).symm
theorem st_shift (σ : CS) (ρ : RS) (hR : Rel σ ρ) (a1 a2 a3 : Int32) : wpX4_shift a1 a2 a3 σ (fun r σ1 => wpX5_shift a1 a2 a3 ρ (fun r1 ρ1 => r = r1 ∧ Rel σ1 ρ1)) := by
  have hR' := hR
  obtain ⟨c, h, hC, hF, hH⟩ := hR
  have hb3 := b32 a3
  show wpX4_shift_0 a1 a2 a3 _ σ
  unfold wpX4_shift_0
  refine are4 ?_ ?_
  · rintro d x y hd hx hy rfl rfl _
    have hdx := dl_le (c x)
    refine ⟨fun _ => ⟨pk_in x _ hx, ?_⟩, fun h1 => absurd h1 (by decide)⟩
    rw [nI_clamp (by omega)]
    refine sp_move hx (hC.1 x hx) (hC.2.1 x hx) (fun σ1 f1 f2 => ?_)
    rw [← hor_mv (hF.1 x hx).2.1] at f1
    refine fin_op hd (by omega) (by omega) (hC.cx hH (bcx f2)) hH f1 (fun Q hQ => ?_)
    show wpX5_shift_0 (nI d) (nI x) a3 Q ρ
    unfold wpX5_shift_0 wpX5_shift_14
    refine good5' hd hx ?_
    refine sp_rclear (p := 23) (by omega) (fun τ1 g1 g2 => ?_)
    have ht : a3.toInt64.toInt.natAbs ≤ 2147483648 := by rw [t64]; omega
    refine sp_rput (n := 221) (v := a3.toInt64.toInt.natAbs) (g := a3.toInt64.toInt) (by omega) (by omega) (put_of ht) (fun τ2 g3 g4 => ⟨pk_in x _ (by omega), fun a39 ha39 => ?_⟩)
    rw [t64] at g3 ht
    generalize htt : a3.toInt = t at *
    have hC2 : Cq ρ τ2 (fun n => inR 23 n ∨ tmR n) (fun z => z = 23) := (g2.mono (fun n hn => Or.inl hn) (fun _ z => z)).trans ((g4.cq _).mono (fun n hn => Or.inr (by unfold tmR; omega)) (fun _ z => z))
    have keep : ∀ τ, Cq ρ τ (fun n => inR 23 n ∨ tmR n) (fun z => z = 23) → RelR τ c h := fun τ hc => hi23 hc (fun n hn => by unfold inR tmR at hn; omega) (fun p hp => by omega) hF
    rw [nI_clamp (by omega), ((keep τ2 hC2).1 x hx).2.2] at ha39
    have hcb := hC.2.1 x hx
    refine lp_dnR (I := fun k τ => ∃ W : Row, (∀ i, i < 9 → RpR τ (207 + i) (W i)) ∧ (∀ i, dl (c x) - k ≤ i → W i = 0) ∧ (∀ i, (W i).natAbs < 2147483648 ^ (7 + 4 * (dl (c x) - k))) ∧ hor t (c x) k W = hor t (c x) (dl (c x)) (fun _ => 0) ∧ RpR τ 221 t ∧ Cq ρ τ (fun n => inR 23 n ∨ tmR n) (fun z => z = 23)) (dl (c x)) (by omega) ?_ τ2 ⟨fun _ => 0, fun i hi => (g1.1 i hi).cr g4 (by omega), fun _ _ => rfl, fun _ => Nat.pow_pos (by omega), rfl, g3, hC2⟩ ha39
    rintro N k τ hk ⟨W, hW, hWz, hWb, hWr, h221, hC⟩ hN
    have hFt := keep τ hC
    unfold wbX5_shift_39
    rw [dg_lt0 (by omega)]
    refine ⟨fun h1 => ?_, fun h1 => ?_⟩
    · subst h1
      have hWr' : W = hor t (c x) (dl (c x)) (fun _ => 0) := hWr
      refine sp_rmeasure (p := 23) (c := W) (by omega) hW (fun i hi => hWz i (by omega)) (fun τ3 k1 k2 => ?_)
      rw [hWr'] at k1
      exact sp_rresult (s := 23) hd (by omega) (by omega) (hi23 k2 (fun n hn => hn.elim) (fun p hp => by omega) hFt) hH k1 hQ
    · obtain ⟨u, rfl⟩ : ∃ u, k = u + 1 := ⟨k - 1, by omega⟩
      rw [nI_pred]
      have hex : 7 + 4 * (dl (c x) - (u + 1)) + 4 = 7 + 4 * (dl (c x) - u) := by omega
      have b1 : ∀ i, (W i * t).natAbs < 2147483648 ^ (7 + 4 * (dl (c x) - (u + 1)) + 2) := fun i => bd_t (hWb i) ht
      have hsb : ∀ i, (shf 1 W i).natAbs < 2147483648 ^ (7 + 4 * (dl (c x) - (u + 1)) + 2) := fun i => by
        unfold shf
        split
        · exact lt_cap (hWb _) (by omega)
        · exact Nat.pow_pos (by omega)
      have b2 : ∀ i, (W i * t + shf 1 W i).natAbs < 2147483648 ^ (7 + 4 * (dl (c x) - (u + 1)) + 3) := fun i => bd_add (b1 i) (hsb i)
      have b3 : (W 0 * t + shf 1 W 0 + c x u).natAbs < 2147483648 ^ (7 + 4 * (dl (c x) - (u + 1)) + 4) := bd_add (b2 0) (lt_cap (hcb u) (by omega))
      refine lq3_i (I := fun i4 i5 τ' => i4 = nI u ∧ ∃ j, j ≤ 9 ∧ i5 = nI j - 1 ∧ (∀ i, i < 9 → RpR τ' (207 + i) (if j ≤ i then W i * t + shf 1 W i else W i)) ∧ RpR τ' 221 t ∧ Cq ρ τ' (fun n => inR 23 n ∨ tmR n) (fun z => z = 23)) (μ := fun _ i5 _ => (i5 + 1).toNatClampNeg) ?_ _ _ _ ⟨rfl, 9, Nat.le_refl _, rfl, fun i hi => by rw [if_neg (by omega)]; exact hW i hi, h221, hC⟩
      rintro N2 i4 i5 τ' ⟨rfl, j, hj, rfl, hL, h221', hC'⟩ hN2
      have hFt' := keep τ' hC'
      unfold wbX5_shift_48
      rw [dg_lt0 (by omega)]
      refine ⟨fun h2 => ?_, fun h2 => ?_⟩
      · subst h2
        rw [at_eq, at_eq, at_eq, show (23 : Int32) = nI 23 from rfl, show (0 : Int32) = nI 0 from rfl, ia, ia]
        have r0 : RpR τ' (9 * 23 + 0) (W 0 * t + shf 1 W 0) := by
          have := hL 0 (by omega)
          rw [if_pos (Nat.zero_le _)] at this
          exact this
        refine sp_rsum (e := 1) (by omega) (by omega) (by omega) r0 ((hFt'.1 x hx).1 u (by omega)) (Or.inl ⟨rfl, rfl⟩) (by rw [Int.one_mul]; exact cp300 b3 (by omega)) (fun τ3 k1 k2 a10 ha10 => ?_)
        rw [Int.one_mul] at k1
        subst ha10
        refine hN u τ3 rfl ⟨hst t W (c x u), fun i hi => ?_, fun i hi => ?_, fun i => ?_, hWr, h221'.cr k2 (by omega), hC'.trans (((Cr.pq (p := 23) (i := 0) k2 (by omega) _)).mono (fun n hn => Or.inl hn) (fun _ z => z))⟩
        · unfold hst
          by_cases e : i = 0
          · subst e
            rw [if_pos rfl]
            exact k1
          · have := (hL i hi).cr k2 (by omega)
            rw [if_pos (Nat.zero_le _)] at this
            rw [if_neg e, Int.add_zero]
            exact this
        · exact hst_top (m := dl (c x) - (u + 1)) hWz i (by omega)
        · rw [← hex]
          unfold hst
          by_cases e : i = 0
          · subst e
            rw [if_pos rfl]
            exact b3
          · rw [if_neg e, Int.add_zero]
            exact lt_cap (b2 i) (by omega)
      · obtain ⟨v, rfl⟩ : ∃ v, j = v + 1 := ⟨j - 1, by omega⟩
        rw [nI_pred, at_eq, show (23 : Int32) = nI 23 from rfl, ia]
        have rv : RpR τ' (9 * 23 + v) (W v) := by
          have := hL v (by omega)
          rw [if_neg (by omega)] at this
          exact this
        refine sp_rtimes (t := 219) (b := 221) (by omega) (by omega) (by omega) (by omega) (by omega) rv h221' (cp300 (b1 v) (by omega)) (fun τ3 k1 k2 => ?_)
        rw [at_eq, ia]
        refine sp_rcopy (a := 219) (t := 9 * 23 + v) (by omega) (by omega) k1 (fun τ4 k3 k4 => ?_)
        have k5 : Cr τ' τ4 (fun z => z = 219 ∨ z = 9 * 23 + v) := (k2.mono (fun z hz => Or.inl hz)).trans (k4.mono (fun z hz => Or.inr hz))
        have next : ∀ τ5, RpR τ5 (207 + v) (W v * t + shf 1 W v) → Cr τ' τ5 (fun z => z = 219 ∨ z = 9 * 23 + v) → wpX5_shift_117 (nI d) (nI x) a3 Q N N2 (nI u) (nI v) τ5 := by
          intro τ5 m1 m2
          unfold wpX5_shift_117
          intro a1 ha1
          subst ha1
          refine hN2 _ _ _ ⟨rfl, v, by omega, (Int32.sub_eq_add_neg _ _).symm, fun i hi => ?_, h221'.cr m2 (by omega), hC'.trans ((m2.cq _).mono (fun z hz => by unfold inR tmR; omega) (fun _ z => z))⟩ ?_
          · by_cases e : i = v
            · subst e
              rw [if_pos (Nat.le_refl _)]
              exact m1
            · have := (hL i hi).cr m2 (by omega)
              by_cases e2 : v + 1 ≤ i
              · rw [if_pos (by omega)]
                rw [if_pos e2] at this
                exact this
              · rw [if_neg (by omega)]
                rw [if_neg e2] at this
                exact this
          · show (nI v + (-1) + 1).toNatClampNeg < (nI (v + 1) - 1 + 1).toNatClampNeg
            rw [m1p1, nI_pred, nI_1, nI_clamp (by omega), nI_clamp (by omega)]
            omega
        rw [pos32 v (by omega)]
        refine ⟨fun h3 => next τ4 ?_ k5, fun h3 => ?_⟩
        · subst h3
          rw [show shf 1 W 0 = 0 from rfl, Int.add_zero]
          exact k3
        · rw [at_eq, at_eq, at_eq, deg_s h3, ia, ia]
          have rp : RpR τ4 (9 * 23 + (v - 1)) (W (v - 1)) := by
            have := hL (v - 1) (by omega)
            rw [if_neg (by omega)] at this
            exact this.cr k5 (by omega)
          have es : shf 1 W v = W (v - 1) := by
            unfold shf
            rw [if_pos (by omega)]
          have hbb := b2 v
          rw [es] at hbb
          refine sp_rsum (e := 1) (by omega) (by omega) (by omega) k3 rp (Or.inl ⟨rfl, rfl⟩) (by rw [Int.one_mul]; exact cp300 hbb (by omega)) (fun τ5 k6 k7 => next τ5 ?_ (k5.trans (k7.mono (fun z hz => Or.inr hz))))
          rw [Int.one_mul] at k6
          rw [es]
          exact k6
  · intro hb
    refine ⟨fun h1 => absurd rfl h1, fun _ => ?_⟩
    show wpX5_shift_0 a1 a2 a3 _ ρ
    unfold wpX5_shift_0 wpX5_shift_14
    exact bad5' hb ⟨rfl, hR'⟩
