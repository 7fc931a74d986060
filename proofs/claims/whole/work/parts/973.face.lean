/-! PURE: the face: add, multiply, derive, remainder, quotient, gcd, once -/
theorem fin_op {d q : Nat} {Y : Row} {c : Nat → Row} {h : Hand} {σ1 : CS} {Ref : (Int32 → RS → Prop) → Prop} (hd : d < 8) (hq : 8 ≤ q) (hq2 : q < 20) (hC : RelC σ1 c h) (hH : HOK c h) (hY : Pl σ1 q Y)
    (hRef : ∀ Q : Int32 → RS → Prop, (∀ r ρ' c' h', Dl c h d Y r c' h' → RelR ρ' c' h' → Q r ρ') → Ref Q) : wpX4_deliver (nI d) q σ1 (fun r σ' => Ref (fun r1 ρ1 => r = r1 ∧ Rel σ' ρ1)) :=
  sp_deliver hd hq hq2 hC hH hY (fun r σ' c' h' f1 f2 => hRef _ (fun r2 ρ' c2 h2 f3 f4 => fin_dl hH f1 f3 rfl f2 f4))
theorem bcx {σ σ' : CS} (h : Cg σ σ' bS bD) : Cx σ σ' cxS cxD := h.cx.mono (fun w hw => by unfold bS inP at hw; unfold cxS; omega) (fun p hp => by unfold bD at hp; unfold cxD; omega)
theorem bcx9 {σ σ' : CS} (h : Cg σ σ' bS9 bD9) : Cx σ σ' cxS cxD := h.cx.mono (fun w hw => by unfold bS9 inP at hw; unfold cxS; omega) (fun p hp => by unfold bD9 at hp; unfold cxD; omega)
theorem bd2 {x y : Int} {e : Int} (he : e = 1 ∨ e = -1) (hx : x.natAbs < 2147483648 ^ 6) (hy : y.natAbs < 2147483648 ^ 6) : (x + e * y).natAbs < 268435456 ^ 430 := by
  have h1 : (e * y).natAbs < 2147483648 ^ 6 := by
    rcases he with e1 | e1 <;> rw [e1]
    · rw [Int.one_mul]; exact hy
    · rw [Int.neg_one_mul, Int.natAbs_neg]; exact hy
  exact cp300 (bd_add hx h1) (by omega)
/-- three registers of the reference, or not -/
theorem bad5 {x1 x2 x3 : Int32} {ρ : RS} {B : RS → Prop} {G : RS → Prop} (hb : (x1 < 0 ∨ (8 : Int32) ≤ x1) ∨ (x2 < 0 ∨ (8 : Int32) ≤ x2) ∨ (x3 < 0 ∨ (8 : Int32) ≤ x3)) (hB : B ρ) : wpX5_isRegister x1 ρ (fun (r16 : Int32) (σ17 : RS) =>
    (r16 = 0 → B σ17) ∧ (¬ r16 = 0 → wpX5_isRegister x2 σ17 (fun (r18 : Int32) (σ19 : RS) => (r18 = 0 → B σ19) ∧ (¬ r18 = 0 → wpX5_isRegister x3 σ19 (fun (r20 : Int32) (σ21 : RS) => (¬ r20 = 0 → G σ21) ∧ (r20 = 0 → B σ21)))))) := by
  rcases reg_or x1 with ⟨a, ha, e1⟩ | e1
  · rw [e1]
    refine isR5_t ha ⟨fun h1 => absurd h1 (by decide), fun _ => ?_⟩
    rcases reg_or x2 with ⟨b, hb2, e2⟩ | e2
    · rw [e2]
      refine isR5_t hb2 ⟨fun h1 => absurd h1 (by decide), fun _ => ?_⟩
      rcases reg_or x3 with ⟨d, hd, e3⟩ | e3
      · exfalso
        rcases hb with hb | hb | hb
        · rw [e1] at hb
          rcases hb with h | h
          · exact nI_pos (by omega) h
          · exact nI_ge (b := 8) ha (by omega) h
        · rw [e2] at hb
          rcases hb with h | h
          · exact nI_pos (by omega) h
          · exact nI_ge (b := 8) hb2 (by omega) h
        · rw [e3] at hb
          rcases hb with h | h
          · exact nI_pos (by omega) h
          · exact nI_ge (b := 8) hd (by omega) h
      · exact isR5_f e3 ⟨fun h1 => absurd rfl h1, fun _ => hB⟩
    · exact isR5_f e2 ⟨fun _ => hB, fun h1 => absurd rfl h1⟩
  · exact isR5_f e1 ⟨fun _ => hB, fun h1 => absurd rfl h1⟩
theorem bad5' {x1 x2 : Int32} {ρ : RS} {B : RS → Prop} {G : RS → Prop} (hb : (x1 < 0 ∨ (8 : Int32) ≤ x1) ∨ (x2 < 0 ∨ (8 : Int32) ≤ x2) ∨ (x2 < 0 ∨ (8 : Int32) ≤ x2)) (hB : B ρ) : wpX5_isRegister x1 ρ (fun (r16 : Int32) (σ17 : RS) =>
    (r16 = 0 → B σ17) ∧ (¬ r16 = 0 → wpX5_isRegister x2 σ17 (fun (r20 : Int32) (σ21 : RS) => (¬ r20 = 0 → G σ21) ∧ (r20 = 0 → B σ21)))) := by
  rcases reg_or x1 with ⟨a, ha, e1⟩ | e1
  · rw [e1]
    refine isR5_t ha ⟨fun h1 => absurd h1 (by decide), fun _ => ?_⟩
    rcases reg_or x2 with ⟨b, hb2, e2⟩ | e2
    · exfalso
      rcases hb with hb | hb
      · rw [e1] at hb
        rcases hb with h | h
        · exact nI_pos (by omega) h
        · exact nI_ge (b := 8) ha (by omega) h
      · rw [e2] at hb
        rcases hb with (h | h) | (h | h)
        · exact nI_pos (by omega) h
        · exact nI_ge (b := 8) hb2 (by omega) h
        · exact nI_pos (by omega) h
        · exact nI_ge (b := 8) hb2 (by omega) h
    · exact isR5_f e2 ⟨fun h1 => absurd rfl h1, fun _ => hB⟩
  · exact isR5_f e1 ⟨fun _ => hB, fun h1 => absurd rfl h1⟩
theorem good5 {a b d : Nat} {ρ : RS} {B : RS → Prop} {G : RS → Prop} (ha : a < 8) (hb : b < 8) (hd : d < 8) (hG : G ρ) : wpX5_isRegister (nI a) ρ (fun (r16 : Int32) (σ17 : RS) =>
    (r16 = 0 → B σ17) ∧ (¬ r16 = 0 → wpX5_isRegister (nI b) σ17 (fun (r18 : Int32) (σ19 : RS) => (r18 = 0 → B σ19) ∧ (¬ r18 = 0 → wpX5_isRegister (nI d) σ19 (fun (r20 : Int32) (σ21 : RS) => (¬ r20 = 0 → G σ21) ∧ (r20 = 0 → B σ21)))))) :=
  isR5_t ha ⟨fun h1 => absurd h1 (by decide), fun _ => isR5_t hb ⟨fun h1 => absurd h1 (by decide), fun _ => isR5_t hd ⟨fun _ => hG, fun h1 => absurd h1 (by decide)⟩⟩⟩
theorem good5' {a b : Nat} {ρ : RS} {B : RS → Prop} {G : RS → Prop} (ha : a < 8) (hb : b < 8) (hG : G ρ) : wpX5_isRegister (nI a) ρ (fun (r16 : Int32) (σ17 : RS) =>
    (r16 = 0 → B σ17) ∧ (¬ r16 = 0 → wpX5_isRegister (nI b) σ17 (fun (r20 : Int32) (σ21 : RS) => (¬ r20 = 0 → G σ21) ∧ (r20 = 0 → B σ21)))) :=
  isR5_t ha ⟨fun h1 => absurd h1 (by decide), fun _ => isR5_t hb ⟨fun _ => hG, fun h1 => absurd h1 (by decide)⟩⟩
theorem hi23 {ρ ρ' : RS} {S D : Nat → Prop} (h : Cq ρ ρ' S D) (h1 : ∀ n, S n → 72 ≤ n) (h2 : ∀ p, D p → 8 ≤ p) {c : Nat → Row} {hd : Hand} (hR : RelR ρ c hd) : RelR ρ' c hd := hR.cz (h.cz h1 h2)
theorem ref_add {d x y : Nat} {x4 : Int32} {e : Int} {c : Nat → Row} {h : Hand} {ρ : RS} {Q : Int32 → RS → Prop} (hd : d < 8) (hx : x < 8) (hy : y < 8) (hF : RelR ρ c h) (hH : HOK c h) (hb : ∀ p, p < 8 → ∀ i, (c p i).natAbs < 2147483648 ^ 6) (he : (e = 1 ∧ x4 = 0) ∨ (e = -1 ∧ x4 ≠ 0))
    (hQ : ∀ r ρ' c' h', Dl c h d (fun i => c x i + e * c y i) r c' h' → RelR ρ' c' h' → Q r ρ') : wpX5_add (nI d) (nI x) (nI y) x4 ρ Q := by
  show wpX5_add_0 (nI d) (nI x) (nI y) x4 Q ρ
  unfold wpX5_add_0 wpX5_add_21
  refine good5 hd hx hy ?_
  refine lp_upR (I := fun k τ => (∀ i, i < k → RpR τ (207 + i) (c x i + e * c y i)) ∧ Cq ρ τ (inR 23) (fun _ => False)) 9 (by omega) ?_ ρ ⟨fun i hi => absurd hi (by omega), Cq.refl _ _ _⟩
  rintro N k τ hk ⟨hL, hC⟩ hN
  have hFt := hi23 hC (fun n hn => by unfold inR at hn; omega) (fun p hp => hp.elim) hF
  unfold wbX5_add_26
  refine pk_le 9 k (fun h1 => ?_) (fun h1 => ?_) rfl rfl (by omega) (by omega)
  · have : k = 9 := by omega
    subst this
    refine sp_rmeasure (p := 23) (c := fun i => c x i + e * c y i) (by omega) hL (fun i hi => ?_) (fun τ1 f1 f2 => ?_)
    · show c x i + e * c y i = 0
      rw [(hF.1 x hx).2.1 i hi, (hF.1 y hy).2.1 i hi, Int.mul_zero]
      rfl
    · exact sp_rresult (s := 23) hd (by omega) (by omega) (hi23 f2 (fun n hn => hn.elim) (fun p hp => by omega) hFt) hH f1 hQ
  · rw [at_eq, at_eq, at_eq, show (23 : Int32) = nI 23 from rfl, ia, ia, ia]
    have hnx : ∀ τ1, RpR τ1 (207 + k) (c x k + e * c y k) → Cr τ τ1 (fun z => z = 207 + k) → wpX5_add_66 (nI d) (nI x) (nI y) x4 Q N (nI k) τ1 := by
      intro τ1 f1 f2
      unfold wpX5_add_66
      intro a1 ha1
      subst ha1
      refine hN _ h1 ⟨fun i hi => ?_, hC.trans (Cr.pq (p := 23) (i := k) f2 h1 _)⟩
      by_cases e3 : i = k
      · rw [e3]; exact f1
      · exact (hL i (by omega)).cr f2 (by omega)
    have he' : e = 1 ∨ e = -1 := by rcases he with ⟨e1, _⟩ | ⟨e1, _⟩; exact Or.inl e1; exact Or.inr e1
    have hbk := bd2 he' (hb x hx k) (hb y hy k)
    have r1 := (hFt.1 x hx).1 k h1
    have r2 := (hFt.1 y hy).1 k h1
    refine ⟨fun h2 => sp_rsum (t := 207 + k) (e := e) (by omega) (by omega) (by omega) r1 r2 ?_ hbk hnx, fun h2 => sp_rsum (t := 207 + k) (e := e) (by omega) (by omega) (by omega) r1 r2 ?_ hbk hnx⟩
    · rcases he with ⟨e1, _⟩ | ⟨_, e2⟩
      · exact Or.inl ⟨e1, rfl⟩
      · exact absurd h2 e2
    · rcases he with ⟨_, e2⟩ | ⟨e1, _⟩
      · exact absurd e2 h2
      · exact Or.inr ⟨e1, rfl⟩
theorem st_add (σ : CS) (ρ : RS) (hR : Rel σ ρ) (a1 a2 a3 a4 : Int32) : wpX4_add a1 a2 a3 a4 σ (fun r σ1 => wpX5_add a1 a2 a3 a4 ρ (fun r1 ρ1 => r = r1 ∧ Rel σ1 ρ1)) := by
  have hR' := hR
  obtain ⟨c, h, hC, hF, hH⟩ := hR
  show wpX4_add_0 a1 a2 a3 a4 _ σ
  unfold wpX4_add_0 wpX4_add_40
  refine are4 ?_ ?_
  · rintro d x y hd hx hy rfl rfl rfl
    refine ⟨fun _ => ⟨pk_in x _ hx, pk_in y _ hy, ?_⟩, fun h1 => absurd h1 (by decide)⟩
    rw [nI_clamp (by omega), nI_clamp (by omega)]
    refine ⟨fun h4 => sp_sum hx hy (hC.1 x hx) (hC.1 y hy) (hC.2.1 x hx) (hC.2.1 y hy) (fun σ1 f1 f2 => ?_), fun h4 => sp_sum hx hy (hC.1 x hx) (hC.1 y hy) (hC.2.1 x hx) (hC.2.1 y hy) (fun σ1 f1 f2 => ?_)⟩
    · refine fin_op hd (by omega) (by omega) (hC.cx hH (bcx f2)) hH f1 (fun Q hQ => ref_add (e := 1) hd hx hy hF hH hC.2.1 (Or.inl ⟨rfl, h4⟩) ?_)
      have e1 : (fun i => c x i + 1 * c y i) = (fun i => c x i + sgn32 1 (c y i)) := by
        funext i
        unfold sgn32
        rw [if_pos (by decide), Int.one_mul]
      rw [e1]
      exact hQ
    · refine fin_op hd (by omega) (by omega) (hC.cx hH (bcx f2)) hH f1 (fun Q hQ => ref_add (e := -1) hd hx hy hF hH hC.2.1 (Or.inr ⟨rfl, h4⟩) ?_)
      have e1 : (fun i => c x i + -1 * c y i) = (fun i => c x i + sgn32 (-1) (c y i)) := by
        funext i
        unfold sgn32
        rw [if_neg (by decide)]
        omega
      rw [e1]
      exact hQ
  · intro hb
    refine ⟨fun h1 => absurd rfl h1, fun _ => ?_⟩
    show wpX5_add_0 a1 a2 a3 a4 _ ρ
    unfold wpX5_add_0 wpX5_add_21
    exact bad5 hb ⟨rfl, hR'⟩
theorem dgm : ∀ a, a < 10 → ∀ b, b < 10 → ((nI a - 1) + (nI b - 1) ≤ (8 : Int32) ↔ a + b ≤ 10) := by decide +kernel
theorem ref_mul67 {d x y : Nat} {c : Nat → Row} {h : Hand} {ρ : RS} {Q : Int32 → RS → Prop} (hd : d < 8) (hx : x < 8) (hy : y < 8) (hF : RelR ρ c h) (hH : HOK c h) (hb : ∀ p, p < 8 → ∀ i, (c p i).natAbs < 2147483648 ^ 6) (hdeg : dl (c x) + dl (c y) ≤ 10) (h23 : ∀ i, i < 9 → RpR ρ (207 + i) 0)
    (hQ : ∀ r ρ' c' h', Dl c h d (fun m => pm (c x) (c y) 9 m) r c' h' → RelR ρ' c' h' → Q r ρ') : wpX5_multiply_67 (nI d) (nI x) (nI y) Q ρ := by
  have hdx := dl_le (c x)
  have hdy := dl_le (c y)
  have hx9 := (hF.1 x hx).2.1
  have hy9 := (hF.1 y hy).2.1
  have hprod : ∀ i j, (c x i * c y j).natAbs < 2147483648 ^ 12 := fun i j => bd_mul (hb x hx i) (hb y hy j)
  have hpmb : ∀ k m, k ≤ 9 → (pm (c x) (c y) k m).natAbs < 2147483648 ^ 13 := fun k m hk => bd_9 (k := 12) (Nat.le_trans (pm_bd (X := 2147483648 ^ 12 - 1) (fun i j => by have := hprod i j; omega) k m) (Nat.mul_le_mul_right _ (by omega))) (by decide)
  unfold wpX5_multiply_67
  refine lp_upR (I := fun k τ => k ≤ dl (c x) ∧ (∀ m, m < 9 → RpR τ (207 + m) (pm (c x) (c y) k m)) ∧ Cq ρ τ (fun n => inR 23 n ∨ tmR n) (fun _ => False)) 9 (by omega) ?_ ρ ⟨Nat.zero_le _, fun m hm => h23 m hm, Cq.refl _ _ _⟩
  rintro N k τ hk ⟨hkx, hL, hC⟩ hN
  have hFt := hi23 hC (fun n hn => by unfold inR tmR at hn; omega) (fun p hp => hp.elim) hF
  unfold wbX5_multiply_70
  rw [nI_clamp (by omega), (hFt.1 x hx).2.2, deg_lt (by omega) (by omega)]
  refine ⟨pk_in x _ (by omega), fun h1 => ?_, fun h1 => ?_⟩
  · have hke : k = dl (c x) := by omega
    have hpe : ∀ m, pm (c x) (c y) 9 m = pm (c x) (c y) k m := fun m => pm_ext (by omega) (fun i hi => dl_zero hx9 (by omega))
    refine sp_rmeasure (p := 23) (c := fun m => pm (c x) (c y) 9 m) (by omega) (fun m hm => ?_) (fun m hm => ?_) (fun τ1 f1 f2 => ?_)
    · rw [hpe]
      exact hL m hm
    · show pm (c x) (c y) 9 m = 0
      by_cases e0 : dl (c x) = 0
      · exact pm_0 (fun i _ => dl_zero hx9 (by omega))
      · by_cases e1 : dl (c y) = 0
        · have : ∀ n, pm (c x) (c y) n m = 0 := by
            intro n
            induction n with
            | zero => rfl
            | succ n ih =>
              rw [pm_s, ih, dl_zero hy9 (by omega), Int.mul_zero, ite_self]
              rfl
          exact this 9
        · exact pm_top (d := dl (c x) - 1) (e := dl (c y) - 1) (fun i a _ => dl_zero hx9 (by omega)) (fun i a => dl_zero hy9 (by omega)) (by omega)
    · exact sp_rresult (s := 23) hd (by omega) (by omega) (hi23 f2 (fun n hn => hn.elim) (fun p hp => by omega) hFt) hH f1 hQ
  · refine lq3_i (I := fun i4 i5 τ' => i4 = nI k ∧ ∃ j, j ≤ dl (c y) ∧ i5 = nI j ∧ (∀ m, m < 9 → RpR τ' (207 + m) (pm (c x) (c y) k m + (if k ≤ m ∧ m < k + j then c x k * c y (m - k) else 0))) ∧ Cq ρ τ' (fun n => inR 23 n ∨ tmR n) (fun _ => False)) (μ := fun _ i5 _ => 10 - i5.toNatClampNeg) ?_ _ _ _ ⟨rfl, 0, Nat.zero_le _, rfl, fun m hm => by rw [if_neg (by omega), Int.add_zero]; exact hL m hm, hC⟩
    rintro N2 i4 i5 τ' ⟨rfl, j, hj, rfl, hL2, hC2⟩ hN2
    have hFt2 := hi23 hC2 (fun n hn => by unfold inR tmR at hn; omega) (fun p hp => hp.elim) hF
    unfold wbX5_multiply_84
    rw [nI_clamp (by omega), (hFt2.1 y hy).2.2, deg_lt (by omega) (by omega)]
    refine ⟨pk_in y _ (by omega), fun h2 a1 ha1 => ?_, fun h2 => ?_⟩
    · subst ha1
      refine hN _ (by omega) ⟨by omega, fun m hm => ?_, hC2⟩
      have := hL2 m hm
      rw [pm_s]
      by_cases e : k ≤ m
      · rw [if_pos e]
        by_cases e2 : m < k + j
        · rw [if_pos ⟨e, e2⟩] at this
          exact this
        · rw [if_neg (fun z => e2 z.2)] at this
          rw [dl_zero hy9 (show dl (c y) ≤ m - k by omega), Int.mul_zero]
          exact this
      · rw [if_neg e]
        rw [if_neg (fun z => e z.1)] at this
        exact this
    · rw [at_eq, at_eq, ia, ia]
      have hpk := hprod k j
      refine sp_rtimes (t := 219) (by omega) (by omega) (by omega) (by omega) (by omega) ((hFt2.1 x hx).1 k (by omega)) ((hFt2.1 y hy).1 j (by omega)) (cp300 hpk (by omega)) (fun τ3 f1 f2 => ?_)
      rw [at_eq, at_eq, nI_add, show (23 : Int32) = nI 23 from rfl, ia]
      have hcur : RpR τ3 (207 + (k + j)) (pm (c x) (c y) k (k + j)) := by
        have := hL2 (k + j) (by omega)
        rw [if_neg (by omega), Int.add_zero] at this
        exact this.cr f2 (by omega)
      refine sp_rsum (e := 1) (t := 207 + (k + j)) (a := 207 + (k + j)) (b := 219) (by omega) (by omega) (by omega) hcur f1 (Or.inl ⟨rfl, rfl⟩) (by rw [Int.one_mul]; exact cp300 (bd_add (hpmb k (k + j) (by omega)) (lt_cap hpk (by omega))) (by omega)) (fun τ4 f3 f4 a14 ha14 => ?_)
      subst ha14
      have f5 : Cr τ' τ4 (fun z => z = 219 ∨ z = 207 + (k + j)) := (f2.mono (fun z hz => Or.inl hz)).trans (f4.mono (fun z hz => Or.inr hz))
      refine hN2 _ _ _ ⟨rfl, j + 1, by omega, nI_1 j, fun m hm => ?_, hC2.trans ((f5.cq _).mono (fun z hz => by unfold inR tmR; omega) (fun _ z => z))⟩ ?_
      · by_cases e : m = k + j
        · subst e
          rw [if_pos ⟨by omega, by omega⟩, show k + j - k = j by omega]
          rw [Int.one_mul] at f3
          exact f3
        · have := (hL2 m hm).cr f5 (by omega)
          by_cases e2 : k ≤ m ∧ m < k + j
          · rw [if_pos ⟨e2.1, by omega⟩]
            rw [if_pos e2] at this
            exact this
          · rw [if_neg (by omega)]
            rw [if_neg e2] at this
            exact this
      · show 10 - (nI j + 1).toNatClampNeg < 10 - (nI j).toNatClampNeg
        rw [nI_1, nI_clamp (by omega), nI_clamp (by omega)]
        omega
theorem st_multiply (σ : CS) (ρ : RS) (hR : Rel σ ρ) (a1 a2 a3 : Int32) : wpX4_multiply a1 a2 a3 σ (fun r σ1 => wpX5_multiply a1 a2 a3 ρ (fun r1 ρ1 => r = r1 ∧ Rel σ1 ρ1)) := by
  have hR' := hR
  obtain ⟨c, h, hC, hF, hH⟩ := hR
  show wpX4_multiply_0 a1 a2 a3 _ σ
  unfold wpX4_multiply_0
  refine are4 ?_ ?_
  · rintro d x y hd hx hy rfl rfl rfl
    have hdx := dl_le (c x)
    have hdy := dl_le (c y)
    refine ⟨fun _ => ⟨pk_in x _ hx, pk_in y _ hy, ?_⟩, fun h1 => absurd h1 (by decide)⟩
    rw [nI_clamp (by omega), nI_clamp (by omega), (hC.1 x hx).2.2, (hC.1 y hy).2.2, dgm _ (by omega) _ (by omega)]
    -- the reference, up to the loop
    have ref : ∀ Q : Int32 → RS → Prop, (dl (c x) + dl (c y) ≤ 10 → ∀ τ, RelR τ c h → (∀ i, i < 9 → RpR τ (207 + i) 0) → wpX5_multiply_67 (nI d) (nI x) (nI y) Q τ) → (¬ dl (c x) + dl (c y) ≤ 10 → ∀ τ, RelR τ c h → Q 3 τ) → wpX5_multiply (nI d) (nI x) (nI y) ρ Q := by
      intro Q q1 q2
      show wpX5_multiply_0 (nI d) (nI x) (nI y) Q ρ
      unfold wpX5_multiply_0 wpX5_multiply_21
      refine good5 hd hx hy ?_
      refine sp_rclear (p := 23) (by omega) (fun τ f1 f2 => ⟨pk_in x _ (by omega), ?_⟩)
      have hFt := hi23 f2 (fun n hn => by unfold inR at hn; omega) (fun p hp => by omega) hF
      rw [nI_clamp (by omega), nI_clamp (by omega), (hFt.1 x hx).2.2, (hFt.1 y hy).2.2, deg_neg hdx, deg_neg hdy, dgm _ (by omega) _ (by omega)]
      exact ⟨fun h1 => q1 (by omega) τ hFt f1.1, fun h1 => ⟨pk_in y _ (by omega), fun h2 => q1 (by omega) τ hFt f1.1, fun h2 => ⟨pk_in x _ (by omega), pk_in y _ (by omega), fun h3 => q1 h3 τ hFt f1.1, fun h3 => q2 h3 τ hFt⟩⟩⟩
    refine ⟨fun h4 => ⟨pk_in x _ hx, pk_in y _ hy, sp_times hx hy (hC.1 x hx) (hC.1 y hy) (hC.2.1 x hx) (hC.2.1 y hy) h4 (fun σ1 f1 f2 => ?_)⟩, fun h4 => ref _ (fun h5 => absurd h5 h4) (fun _ τ hFt => ⟨rfl, c, h, hC, hFt, hH⟩)⟩
    exact fin_op hd (by omega) (by omega) (hC.cx hH (bcx f2)) hH f1 (fun Q hQ => ref Q (fun h5 τ hFt h23 => ref_mul67 hd hx hy hFt hH hC.2.1 h5 h23 hQ) (fun h5 => absurd h4 h5))
  · intro hb
    refine ⟨fun h1 => absurd rfl h1, fun _ => ?_⟩
    show wpX5_multiply_0 a1 a2 a3 _ ρ
    unfold wpX5_multiply_0 wpX5_multiply_21
    exact bad5 hb ⟨rfl, hR'⟩
theorem st_derive (σ : CS) (ρ : RS) (hR : Rel σ ρ) (a1 a2 : Int32) : wpX4_derive a1 a2 σ (fun r σ1 => wpX5_derive a1 a2 ρ (fun r1 ρ1 => r = r1 ∧ Rel σ1 ρ1)) := by
  have hR' := hR
  obtain ⟨c, h, hC, hF, hH⟩ := hR
  show wpX4_derive_0 a1 a2 _ σ
  unfold wpX4_derive_0
  refine are4 ?_ ?_
  · rintro d x y hd hx hy rfl rfl _
    refine ⟨fun _ => ⟨pk_in x _ hx, ?_⟩, fun h1 => absurd h1 (by decide)⟩
    rw [nI_clamp (by omega)]
    have h9 := (hC.1 x hx).i9
    refine sp_slope (by omega) (by omega) (hC.1 x hx) (fun i hi => ?_) (fun i hi => h9 _ (by have : tlen 8 = 9 := rfl; omega)) (fun σ1 f1 f2 => ?_)
    · have e8 : capP 8 = 300 := rfl
      rw [e8, dv_abs]
      have h1 := hC.2.1 x hx (i + 1)
      have h2 : tlen 8 = 9 := rfl
      have h3 : (c x (i + 1)).natAbs * (i + 1) ≤ 2147483648 ^ 6 * 2147483648 := Nat.mul_le_mul (Nat.le_of_lt h1) (by omega)
      rw [show (2147483648 : Nat) ^ 6 * 2147483648 = 2147483648 ^ 7 from (Nat.pow_succ 2147483648 6).symm] at h3
      exact Nat.lt_of_le_of_lt h3 (Nat.pow_lt_pow_right (by omega) (by omega))
    · refine fin_op hd (by omega) (by omega) (hC.cx hH (f2.cx.mono (fun w hw => by unfold inP at hw; unfold cxS; omega) (fun p hp => by unfold cxD; omega))) hH f1 (fun Q hQ => ?_)
      show wpX5_derive_0 (nI d) (nI x) Q ρ
      unfold wpX5_derive_0 wpX5_derive_14
      refine good5' hd hx (sp_rderive (q := 23) (by omega) (by omega) (by omega) (hF.1 x hx) (fun i => pw6 (hC.2.1 x hx i)) (fun τ g1 g2 => ?_))
      exact sp_rresult (s := 23) hd (by omega) (by omega) (hi23 g2 (fun n hn => by unfold dvS2 inR tmR at hn; omega) (fun p hp => by omega) hF) hH g1 hQ
  · intro hb
    refine ⟨fun h1 => absurd rfl h1, fun _ => ?_⟩
    show wpX5_derive_0 a1 a2 _ ρ
    unfold wpX5_derive_0 wpX5_derive_14
    exact bad5' hb ⟨rfl, hR'⟩
