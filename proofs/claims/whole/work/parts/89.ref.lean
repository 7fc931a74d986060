/-! PURE: the reference's remain, deriveTo, over -/
def rrS (y : Nat → Int) (d : Nat) (W : Nat → Int) (u i : Nat) : Int := W i * y d - (if u ≤ i then W (d + u) * y (i - u) else 0)
def rr (y : Nat → Int) (d : Nat) : Nat → (Nat → Int) → Nat → Int
  | 0, W => W
  | u + 1, W => rr y d u (rrS y d W u)
theorem rrS_neg (y : Nat → Int) (d : Nat) (W : Nat → Int) (u : Nat) : rrS y d (fun i => -(W i)) u = fun i => -(rrS y d W u i) := by
  funext i
  unfold rrS
  split
  · grind
  · grind
theorem rr_neg (y : Nat → Int) (d : Nat) : ∀ (u : Nat) (W : Nat → Int), rr y d u (fun i => -(W i)) = fun i => -(rr y d u W i) := by
  intro u
  induction u with
  | zero => intro W; rfl
  | succ u ih =>
    intro W
    show rr y d u (rrS y d (fun i => -(W i)) u) = _
    rw [rrS_neg, ih]
    rfl
theorem rr_red (y : Nat → Int) (d : Nat) : ∀ (u : Nat) (W : Nat → Int), rr y d u W = if u % 2 = 1 ∧ y d < 0 then fun i => -(red y d u W i) else red y d u W := by
  intro u
  induction u with
  | zero => intro W; rw [if_neg (by omega)]; rfl
  | succ u ih =>
    intro W
    show rr y d u (rrS y d W u) = _
    by_cases hy : y d < 0
    · have e1 : redS y d W u = fun i => -(rrS y d W u i) := by
        funext i
        unfold redS rrS
        rw [if_pos hy]
      have e2 : rrS y d W u = fun i => -(redS y d W u i) := by
        funext i
        rw [e1]
        show _ = - - rrS y d W u i
        omega
      rw [e2, rr_neg, ih]
      by_cases hu : u % 2 = 1
      · rw [if_pos ⟨hu, hy⟩, if_neg (by omega)]
        funext i
        show - - red y d u (redS y d W u) i = red y d u (redS y d W u) i
        omega
      · have h1 : ¬ (u % 2 = 1 ∧ y d < 0) := fun h => hu h.1
        have h2 : (u + 1) % 2 = 1 ∧ y d < 0 := ⟨by omega, hy⟩
        rw [if_neg h1, if_pos h2]
        rfl
    · have e1 : rrS y d W u = redS y d W u := by
        funext i
        unfold redS rrS
        rw [if_neg hy]
      have h1 : ∀ v, ¬ (v % 2 = 1 ∧ y d < 0) := fun v h => hy h.2
      rw [e1, ih, if_neg (h1 _), if_neg (h1 _)]
      rfl
theorem rrS_bd {y : Nat → Int} {d : Nat} {W : Nat → Int} {u i X Y : Nat} (hW : ∀ i, (W i).natAbs ≤ X) (hy : ∀ i, (y i).natAbs ≤ Y) : (rrS y d W u i).natAbs ≤ X * (2 * Y) := by
  have := redS_bd (d := d) (u := u) (i := i) hW hy
  rw [redS_abs] at this
  exact this
theorem rrS_top {y : Nat → Int} {d : Nat} {W : Nat → Int} {u i : Nat} (hy : ∀ j, d < j → y j = 0) (hW : ∀ j, d + u < j → W j = 0) (hi : d + u ≤ i) : rrS y d W u i = 0 := by
  unfold rrS
  rw [if_pos (by omega)]
  rcases Nat.eq_or_lt_of_le hi with e | e
  · rw [← e, Nat.add_sub_cancel, Int.sub_self]
  · rw [hW i e, hy (i - u) (by omega), Int.zero_mul, Int.mul_zero, Int.sub_self]
def rmS (n : Nat) : Prop := inR 20 n ∨ tmR n
theorem natAbs_mul_le {a b : Int} {X Y : Nat} (ha : a.natAbs ≤ X) (hb : b.natAbs ≤ Y) : (a * b).natAbs ≤ X * Y := by
  rw [Int.natAbs_mul]
  exact Nat.mul_le_mul ha hb
/-- one step of remain -/
theorem rem_step {x1 i3 : Int32} {y W : Nat → Int} {d u X Y : Nat} {τ : RS} {Q : RS → Prop} {N : Int32 → Int32 → Int32 → Int32 → RS → Prop} (hy : PR τ 19 y) (hdy : dl y = d + 1) (hu : d + u ≤ 8)
    (hW : ∀ i, i < 9 → RpR τ (180 + i) (W i)) (hX : ∀ i, (W i).natAbs ≤ X) (hY : ∀ i, (y i).natAbs ≤ Y) (hb : X * (2 * Y) < 268435456 ^ 430)
    (hN : ∀ τ', (∀ i, i < 9 → RpR τ' (180 + i) (rrS y d W u i)) → Cq τ τ' rmS (fun _ => False) → N (nI d) i3 (nI (171 + d)) (nI (d + u) + (-1)) τ')
    (τ1 : RS) (hh : RpR τ1 218 (W (d + u))) (hC1 : Cr τ τ1 (fun z => z = 218)) :
    ∃ n, lq6 (wbX5_remain_73 x1 Q N) n (nI d) i3 (nI (171 + d)) (nI (d + u)) (0 : Int32) τ1 := by
  have hb2 : X * (2 * Y) = X * Y + X * Y := by rw [Nat.mul_left_comm]; omega
  have hXY : ∀ i j, (W i * y j).natAbs ≤ X * Y := fun i j => natAbs_mul_le (hX i) (hY j)
  have hyz : ∀ j, d < j → y j = 0 := fun j hj => hy.zero (by omega)
  have hC1q : Cq τ τ1 rmS (fun _ => False) := (hC1.cq _).mono (fun z hz => Or.inr (by unfold tmR; omega)) (fun _ z => z)
  have hyq : ∀ τ', Cq τ τ' rmS (fun _ => False) → PR τ' 19 y := fun τ' hc => hy.cq hc (fun n hn => by unfold inR at hn; unfold rmS inR tmR; omega) (fun z => z)
  refine lq6_i (I := fun i2 j3 i4 i5 i6 τ' => i2 = nI d ∧ j3 = i3 ∧ i4 = nI (171 + d) ∧ i5 = nI (d + u) ∧ ∃ k, k ≤ 9 ∧ i6 = nI k ∧ (∀ i, i < 9 → RpR τ' (180 + i) (if i < k then W i * y d else W i)) ∧ RpR τ' 218 (W (d + u)) ∧ Cq τ τ' rmS (fun _ => False)) (μ := fun _ _ _ _ i6 _ => 9 - i6.toNatClampNeg) ?_ _ _ _ _ _ _ ⟨rfl, rfl, rfl, rfl, 0, by omega, rfl, fun i hi => by rw [if_neg (by omega)]; exact (hW i hi).cr hC1 (by omega), hh, hC1q⟩
  rintro N73 i2 j3 i4 i5 i6 τ' ⟨rfl, rfl, rfl, rfl, k, hk, rfl, hL, hh', hC⟩ hN73
  unfold wbX5_remain_73
  refine pk_lt 8 k (fun h1 => ?_) (fun h1 => ?_) rfl rfl (by omega) (by omega)
  · have : k = 9 := by omega
    subst this
    refine lq6_i (I := fun i2 k3 i4 i5 i6 τ' => i2 = nI d ∧ k3 = j3 ∧ i4 = nI (171 + d) ∧ i5 = nI (d + u) ∧ ∃ k, k ≤ d + 1 ∧ i6 = nI k ∧ (∀ i, i < 9 → RpR τ' (180 + i) (W i * y d - (if u ≤ i ∧ i < u + k then W (d + u) * y (i - u) else 0))) ∧ RpR τ' 218 (W (d + u)) ∧ Cq τ τ' rmS (fun _ => False)) (μ := fun _ _ _ _ i6 _ => d + 1 - i6.toNatClampNeg) ?_ _ _ _ _ _ _ ⟨rfl, rfl, rfl, rfl, 0, by omega, rfl, fun i hi => ?_, hh', hC⟩
    rotate_left
    · rw [if_neg (by omega), Int.sub_zero]
      have := hL i hi
      rw [if_pos hi] at this
      exact this
    clear hL hh' hC hN73 N73 τ'
    rintro N119 i2 k3 i4 i5 i6 τ' ⟨rfl, rfl, rfl, rfl, k, hk, rfl, hL, hh', hC⟩ hN119
    unfold wbX5_remain_119
    refine pk_lt d k (fun h2 a6 ha6 => ?_) (fun h2 => ?_) rfl rfl (by omega) (by omega)
    · have : k = d + 1 := by omega
      subst this ha6
      refine hN τ' (fun i hi => ?_) hC
      have := hL i hi
      have e : (if u ≤ i ∧ i < u + (d + 1) then W (d + u) * y (i - u) else 0) = (if u ≤ i then W (d + u) * y (i - u) else 0) := by
        by_cases e1 : u ≤ i
        · rw [if_pos e1]
          by_cases e2 : i < u + (d + 1)
          · rw [if_pos ⟨e1, e2⟩]
          · rw [if_neg (fun h => e2 h.2), hyz (i - u) (by omega), Int.mul_zero]
        · rw [if_neg e1, if_neg (fun h => e1 h.1)]
      rw [e] at this
      exact this
    · have hy' := hyq τ' hC
      have e1 : nI k + nI (d + u) - nI d = nI (k + u) := by
        rw [nI_add, pk_sub (by omega), show k + (d + u) - d = k + u by omega]
      rw [at_eq, show (19 : Int32) = nI 19 from rfl, ia]
      have hm := hXY (d + u) k
      refine sp_rtimes (t := 219) (a := 218) (by omega) (by omega) (by omega) (by omega) (by omega) hh' (hy'.1 k (by omega)) (by omega) (fun τ2 g1 g2 => ?_)
      rw [at_eq, at_eq, e1, show (20 : Int32) = nI 20 from rfl, ia]
      have hR : RpR τ2 (180 + (k + u)) (W (k + u) * y d) := by
        have := hL (k + u) (by omega)
        rw [if_neg (by omega), Int.sub_zero] at this
        exact this.cr g2 (by omega)
      have hm2 := hXY (k + u) d
      refine sp_rsum (e := -1) (t := 180 + (k + u)) (a := 180 + (k + u)) (b := 219) (by omega) (by omega) (by omega) hR g1 (Or.inr ⟨rfl, rfl⟩) (by omega) (fun τ3 g3 g4 a17 ha17 => ?_)
      subst ha17
      have g5 : Cr τ' τ3 (fun z => z = 219 ∨ z = 180 + (k + u)) := (g2.mono (fun z hz => Or.inl hz)).trans (g4.mono (fun z hz => Or.inr hz))
      refine hN119 _ _ _ _ _ _ ⟨rfl, rfl, rfl, rfl, k + 1, by omega, nI_1 k, fun i hi => ?_, hh'.cr g5 (by omega), hC.trans ((g5.cq _).mono (fun z hz => by unfold rmS inR tmR; omega) (fun _ z => z))⟩ ?_
      · by_cases e : i = k + u
        · subst e
          rw [if_pos ⟨by omega, by omega⟩, Nat.add_sub_cancel, show W (k + u) * y d - W (d + u) * y k = W (k + u) * y d + -1 * (W (d + u) * y k) by omega]
          exact g3
        · have := (hL i hi).cr g5 (by omega)
          by_cases e2 : u ≤ i ∧ i < u + k
          · rw [if_pos ⟨by omega, by omega⟩]
            rw [if_pos e2] at this
            exact this
          · rw [if_neg (by omega)]
            rw [if_neg e2] at this
            exact this
      · show d + 1 - (nI k + 1).toNatClampNeg < d + 1 - (nI k).toNatClampNeg
        rw [nI_1, nI_clamp (by omega), nI_clamp (by omega)]
        omega
  · have hy' := hyq τ' hC
    rw [at_eq, show (20 : Int32) = nI 20 from rfl, ia]
    have hRk : RpR τ' (180 + k) (W k) := by
      have := hL k (by omega)
      rw [if_neg (by omega)] at this
      exact this
    have hm := hXY k d
    refine sp_rtimes (t := 219) (a := 180 + k) (b := 171 + d) (by omega) (by omega) (by omega) (by omega) (by omega) hRk (hy'.1 d (by omega)) (by omega) (fun τ2 g1 g2 => ?_)
    rw [at_eq, ia]
    refine sp_rcopy (a := 219) (t := 180 + k) (by omega) (by omega) g1 (fun τ3 g3 g4 a26 ha26 => ?_)
    subst ha26
    have g5 : Cr τ' τ3 (fun z => z = 219 ∨ z = 180 + k) := (g2.mono (fun z hz => Or.inl hz)).trans (g4.mono (fun z hz => Or.inr hz))
    refine hN73 _ _ _ _ _ _ ⟨rfl, rfl, rfl, rfl, k + 1, by omega, nI_1 k, fun i hi => ?_, hh'.cr g5 (by omega), hC.trans ((g5.cq _).mono (fun z hz => by unfold rmS inR tmR; omega) (fun _ z => z))⟩ ?_
    · by_cases e : i = k
      · subst e
        rw [if_pos (by omega)]
        exact g3
      · have := (hL i hi).cr g5 (by omega)
        by_cases e2 : i < k
        · rw [if_pos (by omega)]
          rw [if_pos e2] at this
          exact this
        · rw [if_neg (by omega)]
          rw [if_neg e2] at this
          exact this
    · show 9 - (nI k + 1).toNatClampNeg < 9 - (nI k).toNatClampNeg
      rw [nI_1, nI_clamp (by omega), nI_clamp (by omega)]
      omega
theorem rem_mod : ∀ a, a < 10 → nI a - nI a / (2 : Int32) * (2 : Int32) = nI (a % 2) := by decide +kernel
theorem dgs2 : ∀ a, a < 10 → ∀ b, b < 10 → (0 < nI a - 1 - (nI b - 1) + 1 ↔ b ≤ a) ∧ (b ≤ a → nI a - 1 - (nI b - 1) + 1 = nI (a + 1 - b)) := by decide +kernel
/-- what remain leaves -/
def remF (x1 : Int32) (x y : Nat → Int) : Nat → Int := if x1 = 0 then restF x y else red y (dl y - 1) (dl x + 1 - dl y) x
theorem sp_rremain {x1 : Int32} {x y : Nat → Int} {X Y : Nat} {ρ : RS} {Q : RS → Prop} (hx : PR ρ 18 x) (hy : PR ρ 19 y) (hy0 : dl y ≠ 0) (hX : ∀ i, (x i).natAbs ≤ X) (hY : ∀ i, (y i).natAbs ≤ Y) (hb : X * (2 * Y) ^ (dl x + 1 - dl y) < 268435456 ^ 430)
    (hQ : ∀ ρ', PR ρ' 20 (remF x1 x y) → Cq ρ ρ' rmS (fun z => z = 20) → Q ρ') : wpX5_remain x1 ρ Q := by
  have hdx := dl_le x
  have hdy := dl_le y
  show wpX5_remain_0 x1 Q ρ
  unfold wpX5_remain_0
  refine sp_rcopyAll (p := 18) (q := 20) (by omega) (by omega) (by omega) hx (fun τ0 g1 g2 => ?_)
  have hx0 : PR τ0 18 x := hx.cq g2 (fun n hn => by unfold inR at hn; unfold inR; omega) (by omega)
  have hy1 : PR τ0 19 y := hy.cq g2 (fun n hn => by unfold inR at hn; unfold inR; omega) (by omega)
  have hC0 : Cq ρ τ0 rmS (fun z => z = 20) := g2.mono (fun n hn => Or.inl hn) (fun _ z => z)
  have c18 : (18 : Int32).toNatClampNeg = 18 := by decide
  have c19 : (19 : Int32).toNatClampNeg = 19 := by decide
  rw [c18, c19, hx0.2.2, hy1.2.2]
  refine ⟨pk_in 19 _ (by omega), fun a35 ha35 => ⟨pk_in 18 _ (by omega), fun a36 ha36 => ?_⟩⟩
  subst ha35
  obtain ⟨s1, s2⟩ := dgs2 (dl x) (by omega) (dl y) (by omega)
  obtain ⟨d, hd⟩ : ∃ d, dl y = d + 1 := ⟨dl y - 1, by omega⟩
  rw [← ha36] at s1 s2
  rw [s1]
  refine ⟨fun h1 => ?_, fun h1 => ?_⟩
  rotate_left
  · refine hQ τ0 ?_ hC0
    have hst : dl x + 1 - dl y = 0 ∨ (dl x + 1 - dl y = 0) := by omega
    have e0 : dl x + 1 - dl y = 0 := by omega
    have : remF x1 x y = x := by
      unfold remF restF
      rw [e0, if_neg (show ¬ (0 % 2 = 1 ∧ lc y < 0) from fun h => absurd h.1 (by omega))]
      show (if x1 = 0 then x else x) = x
      rw [ite_self]
    rw [this]
    exact g1
  rw [s2 h1]
  rw [hd, nI_pred, at_eq, show (19 : Int32) = nI 19 from rfl, ia, ← hd]
  refine ⟨pk_in 18 _ (by omega), fun a39 ha39 => ?_⟩
  rw [hx0.2.2] at ha39
  subst ha39
  have hsteps : dl x + 1 - dl y = dl x - d := by omega
  rw [hsteps] at *
  have hfin : rr y d (dl x - d) x = restF x y := by
    rw [rr_red]
    unfold restF
    rw [show dl x + 1 - dl y = dl x - d by omega, show dl y - 1 = d by omega, lc_s hd]
  refine lq5_i (I := fun i2 i3 i4 i5 τ => i2 = nI d ∧ i3 = nI (dl x - d) ∧ i4 = nI (171 + d) ∧ ∃ u W, u ≤ dl x - d ∧ i5 = nI (d + u) - 1 ∧ (∀ i, i < 9 → RpR τ (180 + i) (W i)) ∧ (∀ j, d + u ≤ j → W j = 0) ∧ (∀ i, (W i).natAbs ≤ X * (2 * Y) ^ (dl x - d - u)) ∧ rr y d u W = restF x y ∧ Cq ρ τ rmS (fun z => z = 20)) (μ := fun _ _ _ i5 _ => (i5 + 1).toNatClampNeg) ?_ _ _ _ _ _ ⟨rfl, rfl, rfl, dl x - d, x, Nat.le_refl _, by rw [show d + (dl x - d) = dl x by omega], fun i hi => g1.1 i hi, fun j hj => hx.zero (by omega), fun i => by rw [Nat.sub_self, Nat.pow_zero, Nat.mul_one]; exact hX i, hfin, hC0⟩
  rintro N i2 i3 i4 i5 τ ⟨rfl, rfl, rfl, u, W, hu, rfl, hW, hWz, hWb, hWr, hC⟩ hN
  unfold wbX5_remain_50
  have hyt : PR τ 19 y := hy.cq hC (fun n hn => by unfold inR at hn; unfold rmS inR tmR; omega) (by omega)
  rw [deg_lt (by omega) (by omega)]
  refine ⟨fun h2 => ?_, fun h2 => ?_⟩
  · have : u = 0 := by omega
    subst this
    have hWr' : W = restF x y := hWr
    have h9 : ∀ i, 9 ≤ i → W i = 0 := fun i hi => hWz i (by omega)
    refine sp_rmeasure (p := 20) (by omega) hW h9 (fun τ1 g3 g4 => ?_)
    have hC1 := hC.trans (g4.mono (fun _ z => z.elim) (fun _ z => z))
    have hy1 : PR τ1 19 y := hyt.cq g4 (fun _ _ z => z) (by omega)
    refine ⟨fun hx1 => hQ τ1 ?_ hC1, fun hx1 => ?_⟩
    · unfold remF
      rw [if_pos hx1, ← hWr']
      exact g3
    · have hgoal : ∀ τ2, PR τ2 20 (red y (dl y - 1) (dl x + 1 - dl y) x) → Cq ρ τ2 rmS (fun z => z = 20) → Q τ2 := fun τ2 f1 f2 => hQ τ2 (by unfold remF; rw [if_neg hx1]; exact f1) f2
      have hlcd := lc_s hd
      rw [nI_clamp (by omega), (hy1.1 d (by omega)).sg, rem_mod _ (by omega)]
      have hsg : 0 ≤ sg32 (y d) ↔ ¬ y d < 0 := by
        rcases sg32_val (y d) with ⟨e1, e2⟩ | ⟨e1, e2⟩ | ⟨e1, e2⟩ <;> rw [e2]
        · exact ⟨fun h => absurd h (by decide), fun h => absurd e1 h⟩
        · exact ⟨fun _ => by omega, fun _ => by decide⟩
        · exact ⟨fun _ => by omega, fun _ => by decide⟩
      rw [hsg, show (1 : Int32) = nI 1 from rfl, nI_eq (by omega) (by omega)]
      have hre : ¬ ((dl x + 1 - dl y) % 2 = 1 ∧ lc y < 0) → W = red y (dl y - 1) (dl x + 1 - dl y) x := fun h => by
        rw [hWr']
        unfold restF
        rw [if_neg h]
      refine ⟨pk_in (171 + d) _ (by omega), fun h3 => hgoal τ1 ?_ hC1, fun h3 => ⟨fun h4 => hgoal τ1 ?_ hC1, fun h4 => ?_⟩⟩
      · rw [← hre (fun h => h3 (by rw [← hlcd]; exact h.2))]
        exact g3
      · rw [← hre (fun h => h4 (by have := h.1; omega))]
        exact g3
      · have hre2 : ∀ i, red y (dl y - 1) (dl x + 1 - dl y) x i = -(W i) := fun i => by
          rw [hWr']
          unfold restF
          rw [if_pos ⟨by omega, by rw [hlcd]; omega⟩]
          omega
        refine lp_upR (I := fun k τ' => (∀ i, i < 9 → RpR τ' (180 + i) (if i < k then -(W i) else W i)) ∧ Cq τ1 τ' (inR 20) (fun _ => False)) 9 (by omega) ?_ τ1 ⟨fun i hi => by rw [if_neg (by omega)]; exact g3.1 i hi, Cq.refl _ _ _⟩
        rintro N2 k τ2 hk ⟨hL, hC2⟩ hN2
        unfold wbX5_remain_216
        refine pk_le 9 k (fun h5 => ?_) (fun h5 => ?_) rfl rfl (by omega) (by omega)
        · have : k = 9 := by omega
          subst this
          refine hgoal τ2 ⟨fun i hi => ?_, fun i hi => by rw [hre2, h9 i hi]; rfl, ?_⟩ (hC1.trans (hC2.mono (fun n hn => Or.inl hn) (fun _ z => z.elim)))
          · have := hL i hi
            rw [if_pos hi] at this
            rw [hre2]
            exact this
          · rw [hC2.2.1 20 (fun z => z), g3.2.2]
            have : dl (red y (dl y - 1) (dl x + 1 - dl y) x) = dl W := by
              refine ln_uniq (dl_le W) (fun i a b => by rw [hre2, dl_zero h9 a]; rfl) (fun h => ?_)
              have : W (dl W - 1) ≠ 0 := ln_top h
              rw [hre2]
              omega
            rw [this]
        · rw [at_eq, at_eq, show (20 : Int32) = nI 20 from rfl, ia, nI_clamp (by omega)]
          have hk9 := hL k h5
          rw [if_neg (by omega)] at hk9
          refine ⟨pk_in (180 + k) _ (by omega), pk_in (180 + k) _ (by omega), fun a5 ha5 => ?_⟩
          subst ha5
          rw [hk9.sg, ← sg32_neg]
          have f1 := hk9.wG (z := -(W k)) (by omega) (Int.natAbs_neg _) rfl
          have f2 := cr_wG (ρ := τ2) (t := 180 + k) (by omega) (sg32 (-(W k)))
          refine hN2 _ h5 ⟨fun i hi => ?_, hC2.trans (Cr.pq (p := 20) (i := k) f2 h5 _)⟩
          by_cases e : i = k
          · subst e
            rw [if_pos (by omega)]
            exact f1
          · have := (hL i hi).cr f2 (by omega)
            by_cases e2 : i < k
            · rw [if_pos (by omega)]
              rw [if_pos e2] at this
              exact this
            · rw [if_neg (by omega)]
              rw [if_neg e2] at this
              exact this
  · obtain ⟨v, rfl⟩ : ∃ v, u = v + 1 := ⟨u - 1, by omega⟩
    have e1 : nI (d + (v + 1)) - 1 = nI (d + v) := by rw [← Nat.add_assoc]; exact nI_pred _
    rw [e1, at_eq, show (20 : Int32) = nI 20 from rfl, ia]
    refine sp_rcopy (t := 218) (by omega) (by omega) (hW (d + v) (by omega)) (fun τ1 g3 g4 => ?_)
    have hpow : X * (2 * Y) ^ (dl x - d - (v + 1)) * (2 * Y) = X * (2 * Y) ^ (dl x - d - v) := by
      rw [show dl x - d - v = dl x - d - (v + 1) + 1 by omega, Nat.pow_succ, Nat.mul_assoc]
    have hY0 : 1 ≤ 2 * Y := by
      have h4 : y d ≠ 0 := by
        have : y (dl y - 1) ≠ 0 := ln_top hy0
        rw [hd, Nat.add_sub_cancel] at this
        exact this
      have := hY d
      omega
    refine rem_step (X := X * (2 * Y) ^ (dl x - d - (v + 1))) (Y := Y) hyt hd (by omega) hW hWb hY ?_ (fun τ' f1 f2 => ?_) τ1 g3 g4
    · rw [hpow]
      refine Nat.lt_of_le_of_lt (Nat.mul_le_mul_left _ (Nat.pow_le_pow_right hY0 (by omega))) hb
    · refine hN _ _ _ _ _ ⟨rfl, rfl, rfl, v, rrS y d W v, by omega, (Int32.sub_eq_add_neg _ _).symm, f1, fun j hj => rrS_top (fun j hj => hy.zero (by omega)) (fun j hj => hWz j (by omega)) hj, fun i => ?_, hWr, hC.trans (f2.mono (fun _ z => z) (fun _ z => z.elim))⟩ ?_
      · rw [← hpow]
        exact rrS_bd hWb hY
      · show (nI (d + v) + (-1) + 1).toNatClampNeg < (nI (d + (v + 1)) - 1 + 1).toNatClampNeg
        rw [m1p1, e1, nI_1, nI_clamp (by omega), nI_clamp (by omega)]
        omega
