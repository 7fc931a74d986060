/-! PURE: the reference's divisor -/
def hiS (n : Nat) : Prop := 162 ≤ n
def hiD (p : Nat) : Prop := 18 ≤ p
theorem Cq.hi {ρ ρ' : RS} {S D : Nat → Prop} (h : Cq ρ ρ' S D) (h1 : ∀ n, S n → 162 ≤ n) (h2 : ∀ p, D p → 18 ≤ p) : Cq ρ ρ' hiS hiD := h.mono h1 h2
theorem scp_ext {L : Nat → Row} {l b k : Nat} {C : Row} {β : Int} (hl : 1 ≤ l) (hS : SCp L l) (hB : ∀ m, b < m → L l m = 0) (hBb : L l b ≠ 0) (hβ : 0 < β) (hW : ∀ m, red (L l) b k (L (l - 1)) m = -β * C m) (hC9 : ∀ m, 9 ≤ m → C m = 0) (hC0 : dl C ≠ 0) (hd : dl C < dl (L l)) : SCp (lset L (l + 1) C) (l + 1) := by
  refine ⟨fun i hi => ?_, fun i h1 h2 => ?_⟩
  · by_cases e : i = l + 1
    · rw [e, lset_e]
      exact ⟨hC0, hC9⟩
    · rw [lset_n e]
      exact hS.1 i (by omega)
  · rw [lset_n (show ¬ i = l + 1 by omega), lset_n (show ¬ i - 1 = l + 1 by omega)]
    by_cases e : i = l
    · subst e
      rw [lset_e]
      obtain ⟨q, hq⟩ := red_id (L i) b k (L (i - 1))
      refine ⟨hd, ((L i b).natAbs : Int) ^ k, β, q, k, Int.pow_pos (by omega), hβ, fun m => ?_⟩
      rw [hq m, hW m, Int.neg_mul]
      omega
    · rw [lset_n (by omega)]
      exact hS.2 i h1 (by omega)
theorem sce_red {L : Nat → Row} {l b k : Nat} (hBb : L l b ≠ 0) (hW : ∀ m, red (L l) b k (L (l - 1)) m = 0) : SCe L l := by
  obtain ⟨q, hq⟩ := red_id (L l) b k (L (l - 1))
  exact ⟨((L l b).natAbs : Int) ^ k, q, k, Int.pow_pos (by omega), fun m => by rw [hq m, hW m, Int.zero_add]⟩
theorem pp_abs {c : Row} (h9 : ∀ i, 9 ≤ i → c i = 0) (h : dl c ≠ 0) (i : Nat) : (ppos c i).natAbs ≤ (c i).natAbs := by
  have h1 := kap_pp h9 i
  have h2 := kap_ne h
  rw [h1, Int.natAbs_mul]
  exact Nat.le_mul_of_pos_left _ (by omega)
theorem pp_zero {c : Row} (h9 : ∀ i, 9 ≤ i → c i = 0) (h : dl c = 0) : ppos c = c := by
  funext i
  have : c i = 0 := dl_zero h9 (by omega)
  unfold ppos
  rw [this, Int.zero_tdiv, Int.neg_zero, ite_self]
theorem pp_pp {c : Row} (h9 : ∀ i, 9 ≤ i → c i = 0) (h : dl c ≠ 0) : ppos (ppos c) = ppos c := pp_uniq (a := 1) (b := 1) (fun i hi => pp9 h9 hi) (fun i hi => pp9 h9 hi) (by rw [dl_pp h9 h]; exact h) (cnt_pp h9 h) (lc_pp_pos h9 h) (by omega) (by omega) (fun _ => rfl)
theorem rest0 {x y : Row} (h : dl x < dl y) : restF x y = x := by
  unfold restF
  rw [show dl x + 1 - dl y = 0 by omega, if_neg (show ¬ (0 % 2 = 1 ∧ lc y < 0) from fun h => absurd h.1 (by omega))]
  rfl
/-- restF is red but for a sign -/
theorem rest_red (x y : Row) : ∃ ε : Int, (ε = 1 ∨ ε = -1) ∧ ∀ i, restF x y i = ε * red y (dl y - 1) (dl x + 1 - dl y) x i := by
  unfold restF
  split
  · exact ⟨-1, Or.inr rfl, fun i => by show -(red _ _ _ _ i) = _; omega⟩
  · exact ⟨1, Or.inl rfl, fun i => by rw [Int.one_mul]⟩
theorem rest9 {x y : Row} (hx9 : ∀ i, 9 ≤ i → x i = 0) (hy9 : ∀ i, 9 ≤ i → y i = 0) (h0 : dl y ≠ 0) (hd : dl y ≤ dl x) : ∀ i, dl y - 1 ≤ i → restF x y i = 0 := fun i hi => by
  obtain ⟨ε, _, h⟩ := rest_red x y
  rw [h i, red_top (fun j hj => dl_zero hy9 (by omega)) (fun j hj => dl_zero hx9 (by omega)) hi, Int.mul_zero]
/-- a chain on its way in the reference's divisor -/
def DJ (P0 P1 : Row) (τ : RS) : Prop := ∃ R l L a b g h, 1 ≤ l ∧ PG R (dl P0 - 1) (dl P1 - 1) P0 P1 ∧ SCp L l ∧ L 0 = P0 ∧ L 1 = P1 ∧ PI R (dl P0 - 1) (dl P1 - 1) P0 P1 (L (l - 1)) (L l) (l = 1) a b g h ∧ PR τ 18 (ppos (L (l - 1))) ∧ PR τ 19 (ppos (L l))
theorem dj_start {R : Nat} {P0 P1 : Row} {τ : RS} (hG : PG R (dl P0 - 1) (dl P1 - 1) P0 P1) (h18 : PR τ 18 (ppos P0)) (h19 : PR τ 19 (ppos P1)) : DJ P0 P1 τ := by
  have h1 := hG.2.2.2.2
  refine ⟨R, 1, fun i => if i = 0 then P0 else P1, dl P0 - 1, dl P1 - 1, 1, 1, Nat.le_refl _, hG, ⟨fun i hi => ?_, fun i h1 h2 => absurd h1 (by omega)⟩, rfl, rfl, pi_start hG _ rfl, h18, h19⟩
  rcases (show i = 0 ∨ i = 1 by omega) with e | e
  · subst e
    exact ⟨by show dl P0 ≠ 0; omega, h1.1⟩
  · subst e
    exact ⟨by show dl P1 ≠ 0; omega, h1.2.1⟩
theorem p299l {x : Nat} (h : x < 2147483648 ^ 299) : x < 268435456 ^ 430 := Nat.lt_of_lt_of_le h p299
/-- one remainder: what poly 20 holds, and what comes next -/
theorem dj_rem {P0 P1 : Row} {τ : RS} {Q : RS → Prop} (hJ : DJ P0 P1 τ)
    (hQ : ∀ τ' B W, PR τ' 20 W → PR τ' 19 (ppos B) → dl B ≠ 0 → (∀ i, 9 ≤ i → B i = 0) → Cq τ τ' rmS (fun z => z = 20) →
      (dl W = 0 → GcdOf P0 P1 (ppos B)) → (dl W ≠ 0 → dl W < dl B ∧ ∀ τ2, PR τ2 18 (ppos B) → PR τ2 19 (ppos W) → DJ P0 P1 τ2) → Q τ') : wpX5_remain (0 : Int32) τ Q := by
  obtain ⟨R, l, L, a, b, g, h, hl, hG, hS, hL0, hL1, hI, h18, h19⟩ := hJ
  have hI' := hI
  obtain ⟨⟨hA9, hB9, hda, hdb, hba, hlt, hbn1, han1⟩, hSI, hbd⟩ := hI'
  have hA0 : dl (L (l - 1)) ≠ 0 := by omega
  have hB0 : dl (L l) ≠ 0 := by omega
  have hpA := dl_pp hA9 hA0
  have hpB := dl_pp hB9 hB0
  have hP1 : dl P1 ≠ 0 := by
    have := hG.2.2.2.2.2.2.2.2
    omega
  have hBb : L l b ≠ 0 := by
    have : L l (dl (L l) - 1) ≠ 0 := ln_top hB0
    rw [hdb, Nat.add_sub_cancel] at this
    exact this
  have hBz : ∀ m, b < m → L l m = 0 := fun m hm => dl_zero hB9 (by omega)
  have hpBb : ppos (L l) b ≠ 0 := fun e => hBb (by rw [kap_pp hB9 b, e, Int.mul_zero])
  have hkA := kap_ne hA0
  have hkB := kap_ne hB0
  -- room
  have hroom : ∃ X Y, (∀ m, (ppos (L (l - 1)) m).natAbs ≤ X) ∧ (∀ m, (ppos (L l) m).natAbs ≤ Y) ∧ X * (2 * Y) ^ (a - b + 1) < 2147483648 ^ 299 := by
    rcases Nat.eq_zero_or_pos b with e | e
    · obtain ⟨al, be, j1, j2, j3, j4, j5⟩ := hbd
      have hone := pp_const hB9 (show dl (L l) = 1 by omega)
      have hR100 : R ^ al < 2147483648 ^ 100 := by
        rcases hG.1 with ⟨r1, r2, _⟩ | ⟨r1, r2, _⟩
        · exact Nat.lt_of_le_of_lt (Nat.pow_le_pow_right hG.2.1 (by omega)) r2
        · exact Nat.lt_of_le_of_lt (Nat.pow_le_pow_right hG.2.1 (by omega)) r2
      refine ⟨R ^ al, 1, fun m => Nat.le_trans (pp_abs hA9 hA0 m) (j1 m), fun m => ?_, ?_⟩
      · rw [hone]
        unfold one1
        split <;> omega
      · have h2 : (2 * 1) ^ (a - b + 1) ≤ 2 ^ 9 := Nat.pow_le_pow_right (by omega) (by have := dl_le (L (l - 1)); omega)
        have h3 : R ^ al * (2 * 1) ^ (a - b + 1) ≤ 2147483648 ^ 100 * 2 ^ 9 := Nat.mul_le_mul (Nat.le_of_lt hR100) h2
        exact Nat.lt_of_le_of_lt h3 (by decide +kernel)
    · obtain ⟨X, Y, x1, x2, x3⟩ := pi_bd hG hI e
      exact ⟨X, Y, fun m => Nat.le_trans (pp_abs hA9 hA0 m) (x1 m), fun m => Nat.le_trans (pp_abs hB9 hB0 m) (x2 m), x3⟩
  obtain ⟨X, Y, hX, hY, hXY⟩ := hroom
  have hsteps : dl (ppos (L (l - 1))) + 1 - dl (ppos (L l)) = a - b + 1 := by omega
  refine sp_rremain h18 h19 (by omega) hX hY (by rw [hsteps]; exact p299l hXY) (fun τ' g1 g2 => ?_)
  unfold remF at g1
  rw [if_pos rfl] at g1
  have h19' : PR τ' 19 (ppos (L l)) := h19.cq g2 (fun n hn => by unfold inR at hn; unfold rmS inR tmR; omega) (by omega)
  have hW9 := rest9 h18.2.1 h19.2.1 (by omega) (show dl (ppos (L l)) ≤ dl (ppos (L (l - 1))) by omega)
  obtain ⟨ε, hε, hWr⟩ := rest_red (ppos (L (l - 1))) (ppos (L l))
  rw [hsteps, show dl (ppos (L l)) - 1 = b by omega] at hWr
  have hsc : ∀ m, red (L l) b (a - b + 1) (L (l - 1)) m = (((kap (L l)).natAbs : Int) ^ (a - b + 1) * kap (L (l - 1))) * red (ppos (L l)) b (a - b + 1) (ppos (L (l - 1))) m := fun m => by
    have h3 := congrFun (red_sc (y := ppos (L l)) (d := b) hkB hpBb (a - b + 1) (kap (L (l - 1))) (ppos (L (l - 1)))) m
    rw [← fun_kap hB9, ← fun_kap hA9] at h3
    exact h3
  have hkk : ((kap (L l)).natAbs : Int) ^ (a - b + 1) * kap (L (l - 1)) ≠ 0 := Int.mul_ne_zero (by have : (0 : Int) < ((kap (L l)).natAbs : Int) ^ (a - b + 1) := Int.pow_pos (by omega); omega) hkA
  generalize ((kap (L l)).natAbs : Int) ^ (a - b + 1) * kap (L (l - 1)) = K at hsc hkk
  generalize hWd : restF (ppos (L (l - 1))) (ppos (L l)) = W at *
  have hW9' : ∀ i, 9 ≤ i → W i = 0 := fun i hi => hW9 i (by have := dl_le (L l); omega)
  have hdW : dl W < dl (L l) := by
    rcases Nat.lt_or_ge (dl W) (dl (L l)) with e | e
    · exact e
    · have h3 : W (dl W - 1) ≠ 0 := ln_top (show dl W ≠ 0 by omega)
      exact absurd (hW9 _ (by omega)) h3
  have hrel : ∀ m, red (L l) b (a - b + 1) (L (l - 1)) m = K * ε * W m := fun m => by
    rw [hsc m, hWr m]
    rcases hε with e | e <;> rw [e] <;> grind
  have hKe : K * ε ≠ 0 := Int.mul_ne_zero hkk (by omega)
  refine hQ τ' (L l) W g1 h19' hB0 hB9 g2 (fun hd0 => ?_) (fun hd0 => ⟨hdW, fun τ2 k1 k2 => ?_⟩)
  · refine Or.inr ⟨hP1, l, L, hl, hS, sce_red (b := b) (k := a - b + 1) hBb (fun m => ?_), hL0, hL1, rfl⟩
    rw [hrel m, dl_zero hW9' (show dl W ≤ m by omega), Int.mul_zero]
  · rcases Nat.eq_zero_or_pos b with e | e
    · omega
    rcases pi_step hG hI e with h0 | ⟨C, c, g', h', β, hβ, hCW, hcb, hPI⟩
    · exfalso
      have h3 : W (dl W - 1) ≠ 0 := ln_top hd0
      have := hrel (dl W - 1)
      rw [h0] at this
      exact Int.mul_ne_zero hKe h3 this.symm
    · have hC9 := hPI.1.2.1
      have hdC := hPI.1.2.2.2.1
      have hpp : ppos W = ppos C := pp_prop (a := K * ε) (b := -β) hW9' hC9 hd0 (by omega) hKe (by omega) (fun i => by rw [← hrel i, hCW i])
      refine ⟨R, l + 1, lset L (l + 1) C, b, c, g', h', by omega, hG, scp_ext hl hS hBz hBb hβ hCW hC9 (by omega) (by omega), by rw [lset_n (by omega)]; exact hL0, by rw [lset_n (by omega)]; exact hL1, ?_, ?_, ?_⟩
      · rw [Nat.add_sub_cancel, lset_n (by omega), lset_e, show (l + 1 = 1) = False from eq_false (by omega)]
        exact hPI
      · rw [Nat.add_sub_cancel, lset_n (by omega)]
        exact k1
      · rw [lset_e, ← hpp]
        exact k2
def ori (x y : Row) : Row := if dl x < dl y then y else x
def ori2 (x y : Row) : Row := if dl x < dl y then x else y
theorem c18 : (18 : Int32).toNatClampNeg = 18 := by decide
theorem c19 : (19 : Int32).toNatClampNeg = 19 := by decide
theorem rm_hi {ρ ρ' : RS} (h : Cq ρ ρ' rmS (fun z => z = 20)) : Cq ρ ρ' hiS hiD := h.hi (fun n hn => by unfold rmS inR tmR at hn; omega) (fun p hp => by omega)
theorem cp_hi {ρ ρ' : RS} {q : Nat} (hq : 18 ≤ q) (h : Cq ρ ρ' (inR q) (fun z => z = q)) : Cq ρ ρ' hiS hiD := h.hi (fun n hn => by unfold inR at hn; omega) (fun p hp => by omega)
theorem mp_hi {ρ ρ' : RS} {q : Nat} (hq : 18 ≤ q) (h : Cq ρ ρ' (mpS q) (fun _ => False)) : Cq ρ ρ' hiS hiD := h.hi (fun n hn => by unfold mpS inR tmR at hn; omega) (fun p hp => hp.elim)
theorem PR.low {ρ ρ' : RS} {p : Nat} {c : Row} (h : PR ρ p c) (hc : Cq ρ ρ' hiS hiD) (hp : p < 18) : PR ρ' p c := h.cq hc (fun n hn => by unfold inR at hn; unfold hiS; omega) (by unfold hiD; omega)
theorem PR.cp {ρ ρ' : RS} {p q : Nat} {c : Row} (h : PR ρ p c) (hc : Cq ρ ρ' (inR q) (fun z => z = q)) (hp : p ≠ q) : PR ρ' p c := h.cq hc (fun n hn => by unfold inR at hn; unfold inR; omega) hp
theorem PR.mp {ρ ρ' : RS} {p q : Nat} {c : Row} (h : PR ρ p c) (hc : Cq ρ ρ' (mpS q) (fun _ => False)) (hp : p ≠ q) (hp2 : p < 24) : PR ρ' p c := h.cq hc (fun n hn => by unfold inR at hn; unfold mpS inR tmR; omega) (fun z => z)
theorem dlr {ρ : RS} {p : Nat} {c : Row} (h : PR ρ p c) : rD ρ p < 0 ↔ dl c = 0 := by
  rw [h.2.2]
  exact deg_neg (dl_le c)
theorem PR.inj_dl {ρ : RS} {p : Nat} {c d : Row} (h : PR ρ p c) (h2 : PR ρ p d) : dl c = dl d := by
  have := h.2.2.symm.trans h2.2.2
  exact (deg_inj (dl_le c) (dl_le d)).mp this
theorem sp_rdivisor {x y : Row} {ρ : RS} {Q : RS → Prop} (hx : PR ρ 18 x) (hy : PR ρ 19 y) (hroom : dl x ≠ 0 → dl y ≠ 0 → ∃ R, PG R (dl (ori x y) - 1) (dl (ori2 x y) - 1) (ori x y) (ori2 x y))
    (hQ : ∀ ρ' G, PR ρ' 18 G → GcdOf (ori x y) (ori2 x y) G → Cq ρ ρ' hiS hiD → Q ρ') : wpX5_divisor ρ Q := by
  have hx9 := hx.2.1
  have hy9 := hy.2.1
  -- the loop
  have loop : ∀ τ, PR τ 18 (ppos x) → PR τ 19 (ppos y) → Cq ρ τ hiS hiD → ∃ n, lq1 (wbX5_divisor_34 Q) n τ := by
    intro τ t1 t2 t3
    have hdpx : dl (ppos x) = dl x := by
      by_cases e : dl x = 0
      · rw [pp_zero hx9 e]
      · exact dl_pp hx9 e
    have hdpy : dl (ppos y) = dl y := by
      by_cases e : dl y = 0
      · rw [pp_zero hy9 e]
      · exact dl_pp hy9 e
    refine lq1_i (I := fun τ => Cq ρ τ hiS hiD ∧ ((dl x < dl y ∧ PR τ 18 (ppos x) ∧ PR τ 19 (ppos y)) ∨ DJ (ori x y) (ori2 x y) τ ∨ ∃ G Z, PR τ 18 G ∧ PR τ 19 Z ∧ dl Z = 0 ∧ GcdOf (ori x y) (ori2 x y) G)) (μ := fun τ => (rD τ 19 + 1).toNatClampNeg) ?_ _ ⟨t3, ?_⟩
    rotate_left
    · by_cases e : dl y = 0
      · refine Or.inr (Or.inr ⟨ppos x, ppos y, t1, t2, by omega, ?_⟩)
        unfold ori ori2
        rw [if_neg (by omega), if_neg (by omega)]
        exact Or.inl ⟨e, rfl⟩
      · by_cases e2 : dl x < dl y
        · exact Or.inl ⟨e2, t1, t2⟩
        · obtain ⟨R, hR⟩ := hroom (by omega) e
          refine Or.inr (Or.inl (dj_start hR ?_ ?_))
          · unfold ori
            rw [if_neg e2]
            exact t1
          · unfold ori2
            rw [if_neg e2]
            exact t2
    clear t1 t2 t3 τ
    rintro N τ ⟨hC, hcase⟩ hN
    have hmu : ∀ {τ1 τ2 : RS} {c1 c2 : Row}, PR τ1 19 c1 → PR τ2 19 c2 → dl c2 < dl c1 → (rD τ2 19 + 1).toNatClampNeg < (rD τ1 19 + 1).toNatClampNeg := by
      intro τ1 τ2 c1 c2 k1 k2 k3
      have := dl_le c1
      rw [k1.2.2, k2.2.2, Int32.sub_eq_add_neg, m1p1, Int32.sub_eq_add_neg, m1p1, nI_clamp (by omega), nI_clamp (by omega)]
      exact k3
    unfold wbX5_divisor_34
    rw [c18, c19]
    refine ⟨pk_in 19 _ (by omega), fun h1 => ?_, fun h1 => ⟨pk_in 18 _ (by omega), ?_⟩⟩
    · rcases hcase with ⟨k0, k1, k2⟩ | hJ | ⟨G, Z, k1, k2, k3, k4⟩
      · have := (dlr k2).mp h1
        omega
      · obtain ⟨R, l, L, a, b, g, h, hl, hG, hS, hL0, hL1, hI, h18, h19⟩ := hJ
        have h2 := (dlr h19).mp h1
        rw [dl_pp (hS.1 l (Nat.le_refl _)).2 (hS.1 l (Nat.le_refl _)).1] at h2
        exact absurd h2 (hS.1 l (Nat.le_refl _)).1
      · exact hQ τ G k1 k4 hC
    · -- after the remainder: copy, copy, makePrimitive
      have after : ∀ τ1 B W, PR τ1 20 W → PR τ1 19 B → Cq ρ τ1 hiS hiD → (∀ τ2, PR τ2 18 B → PR τ2 19 W → dl W = 0 → Cq ρ τ2 hiS hiD → N τ2) → (∀ τ2, PR τ2 18 B → PR τ2 19 (ppos W) → dl W ≠ 0 → Cq ρ τ2 hiS hiD → N τ2) →
          wpX5_copyAll (19 : Int32) (18 : Int32) τ1 (fun (σ4 : RS) => wpX5_copyAll (20 : Int32) (19 : Int32) σ4 (fun (σ6 : RS) => vp_in (19 : Int32) 24 ∧ (((rD σ6 19) < 0 → N σ6) ∧ (¬ (rD σ6 19) < 0 → wpX5_makePrimitive (19 : Int32) (0 : Int32) σ6 (fun (σ8 : RS) => N σ8))))) := by
        intro τ1 B W k1 k2 k3 k4 k5
        refine sp_rcopyAll (p := 19) (q := 18) (by omega) (by omega) (by omega) k2 (fun τ2 f1 f2 => ?_)
        refine sp_rcopyAll (p := 20) (q := 19) (by omega) (by omega) (by omega) (k1.cp f2 (by omega)) (fun τ3 f3 f4 => ⟨pk_in 19 _ (by omega), ?_⟩)
        have f5 : PR τ3 18 B := f1.cp f4 (by omega)
        have f6 : Cq ρ τ3 hiS hiD := (k3.trans (cp_hi (by omega) f2)).trans (cp_hi (by omega) f4)
        rw [dlr f3]
        refine ⟨fun h2 => k4 τ3 f5 f3 h2 f6, fun h2 => sp_rmkPrim (p := 19) (by omega) f3 h2 (fun τ4 f7 f8 => ?_)⟩
        rw [if_pos rfl] at f7
        exact k5 τ4 (f5.mp f8 (by omega) (by omega)) f7 h2 (f6.trans (mp_hi (by omega) f8))
      rcases hcase with ⟨k0, k1, k2⟩ | hJ | ⟨G, Z, k1, k2, k3, k4⟩
      · rw [k1.2.2, deg_nn (dl_le _)]
        refine ⟨fun h2 => ?_, fun h2 => ?_⟩
        · have hyb : ∀ i, (ppos y i).natAbs ≤ (y i).natAbs := pp_abs hy9 (by omega)
          refine sp_rremain (X := 268435456 ^ 430 - 1) (Y := 268435456 ^ 430) k1 k2 (by omega) (fun i => ?_) (fun i => ?_) ?_ (fun τ1 f1 f2 => ?_)
          · rcases Nat.lt_or_ge i 9 with e | e
            · have := (k1.1 i e).bd
              omega
            · rw [k1.2.1 i e]
              exact Nat.zero_le _
          · rcases Nat.lt_or_ge i 9 with e | e
            · have := (k2.1 i e).bd
              omega
            · rw [k2.2.1 i e]
              exact Nat.zero_le _
          · rw [show dl (ppos x) + 1 - dl (ppos y) = 0 by omega, Nat.pow_zero, Nat.mul_one]
            have : 0 < 268435456 ^ 430 := Nat.pow_pos (by omega)
            omega
          · unfold remF at f1
            rw [if_pos rfl, rest0 (by omega)] at f1
            have f3 : PR τ1 19 (ppos y) := k2.cq f2 (fun n hn => by unfold inR at hn; unfold rmS inR tmR; omega) (by omega)
            refine after τ1 (ppos y) (ppos x) f1 f3 (hC.trans (rm_hi f2)) (fun τ2 _ _ e _ => absurd e h2) (fun τ2 e1 e2 e3 e4 => ?_)
            rw [pp_pp hx9 (by omega)] at e2
            obtain ⟨R, hR⟩ := hroom (by omega) (by omega)
            refine hN τ2 ⟨e4, Or.inr (Or.inl (dj_start hR ?_ ?_))⟩ (hmu k2 e2 (by omega))
            · unfold ori
              rw [if_pos k0]
              exact e1
            · unfold ori2
              rw [if_pos k0]
              exact e2
        · refine sp_rcopyAll (p := 19) (q := 18) (by omega) (by omega) (by omega) k2 (fun τ2 f1 f2 => sp_rclear (p := 19) (by omega) (fun τ3 f3 f4 => hQ τ3 (ppos y) (f1.cp f4 (by omega)) ?_ ((hC.trans (cp_hi (by omega) f2)).trans (cp_hi (by omega) f4))))
          unfold ori ori2
          rw [if_pos k0, if_pos k0]
          exact Or.inl ⟨by omega, rfl⟩
      · have hJ' := hJ
        obtain ⟨R, l, L, a, b, g, h, hl, hG, hS, hL0, hL1, hI, h18, h19⟩ := hJ
        have hA9 := (hS.1 (l - 1) (by omega)).2
        have hA0 := (hS.1 (l - 1) (by omega)).1
        rw [h18.2.2, deg_nn (dl_le _), dl_pp hA9 hA0]
        refine ⟨fun _ => dj_rem hJ' (fun τ1 B W f1 f2 f3 f4 f5 f6 f7 => ?_), fun h2 => absurd hA0 h2⟩
        have f2' := f2
        have hdB := dl_pp f4 f3
        have h19d : dl (ppos (L l)) = dl (ppos B) := PR.inj_dl (ρ := τ1) (p := 19) (h19.cq f5 (fun n hn => by unfold inR at hn; unfold rmS inR tmR; omega) (by omega)) f2
        refine after τ1 (ppos B) W f1 f2 (hC.trans (rm_hi f5)) (fun τ2 e1 e2 e3 e4 => hN τ2 ⟨e4, Or.inr (Or.inr ⟨_, W, e1, e2, e3, f6 e3⟩)⟩ (hmu h19 e2 (by omega))) (fun τ2 e1 e2 e3 e4 => hN τ2 ⟨e4, Or.inr (Or.inl ((f7 e3).2 τ2 e1 e2))⟩ (hmu h19 e2 ?_))
        have h3 := (f7 e3).1
        rw [h19d, hdB, dl_pp f1.2.1 e3]
        exact h3
      · exact absurd ((dlr k2).mpr k3) h1
  have s17 : ∀ τ, PR τ 18 (ppos x) → PR τ 19 y → Cq ρ τ hiS hiD → wpX5_divisor_17 Q τ := by
    intro τ k1 k2 k3
    unfold wpX5_divisor_17
    rw [c19, dlr k2]
    refine ⟨pk_in 19 _ (by omega), fun h1 => loop τ k1 (by rw [pp_zero hy9 h1]; exact k2) k3, fun h1 => sp_rmkPrim (p := 19) (by omega) k2 h1 (fun τ1 f1 f2 => loop τ1 (k1.mp f2 (by omega) (by omega)) ?_ (k3.trans (mp_hi (by omega) f2)))⟩
    rw [if_pos rfl] at f1
    exact f1
  show wpX5_divisor_0 Q ρ
  unfold wpX5_divisor_0
  rw [c18, dlr hx]
  refine ⟨pk_in 18 _ (by omega), fun h1 => s17 ρ (by rw [pp_zero hx9 h1]; exact hx) hy (Cq.refl _ _ _), fun h1 => sp_rmkPrim (p := 18) (by omega) hx h1 (fun τ1 f1 f2 => s17 τ1 ?_ (hy.mp f2 (by omega) (by omega)) (mp_hi (by omega) f2))⟩
  rw [if_pos rfl] at f1
  exact f1
