/-! PURE: the reference's polynomials: measure, clear, copyAll, makePrimitive -/
theorem ia (p i : Nat) : (9 : Int32) * nI p + nI i = nI (9 * p + i) := by
  rw [show (9 : Int32) = nI 9 from rfl, pk_mul, nI_add]
theorem at_eq (a b : Int32) (ρ : RS) (Q : Int32 → RS → Prop) : wpX5_at a b ρ Q = Q ((9 : Int32) * a + b) ρ := rfl
def Cq (ρ ρ' : RS) (S D : Nat → Prop) : Prop := (∀ n, ¬ S n → (∀ k, k < 440 → lm ρ' n k = lm ρ n k) ∧ rS ρ' n = rS ρ n ∧ rG ρ' n = rG ρ n) ∧ (∀ p, ¬ D p → rD ρ' p = rD ρ p) ∧ rH ρ' = rH ρ ∧ rK ρ' = rK ρ
theorem Cr.cq {ρ ρ' : RS} {S : Nat → Prop} (h : Cr ρ ρ' S) (D : Nat → Prop) : Cq ρ ρ' S D := ⟨h.1, fun p _ => by unfold rD; rw [h.2], by unfold rH; rw [h.2], by unfold rK; rw [h.2]⟩
theorem Cq.refl (ρ : RS) (S D : Nat → Prop) : Cq ρ ρ S D := (Cr.refl ρ S).cq D
theorem Cq.trans {ρ ρ1 ρ2 : RS} {S D : Nat → Prop} (h1 : Cq ρ ρ1 S D) (h2 : Cq ρ1 ρ2 S D) : Cq ρ ρ2 S D := ⟨fun n hn => ⟨fun k hk => ((h2.1 n hn).1 k hk).trans ((h1.1 n hn).1 k hk), (h2.1 n hn).2.1.trans (h1.1 n hn).2.1, (h2.1 n hn).2.2.trans (h1.1 n hn).2.2⟩, fun p hp => (h2.2.1 p hp).trans (h1.2.1 p hp), h2.2.2.1.trans h1.2.2.1, h2.2.2.2.trans h1.2.2.2⟩
theorem Cq.mono {ρ ρ' : RS} {S D S2 D2 : Nat → Prop} (h : Cq ρ ρ' S D) (h1 : ∀ n, S n → S2 n) (h2 : ∀ p, D p → D2 p) : Cq ρ ρ' S2 D2 := ⟨fun n hn => h.1 n (fun z => hn (h1 n z)), fun p hp => h.2.1 p (fun z => hp (h2 p z)), h.2.2⟩
theorem RpR.cq {ρ ρ' : RS} {S D : Nat → Prop} {n : Nat} {x : Int} (h : RpR ρ n x) (hc : Cq ρ ρ' S D) (hn : ¬ S n) : RpR ρ' n x := by
  obtain ⟨s, E, h1, h2, h3, h4, h5, h6⟩ := h
  obtain ⟨c1, c2, c3⟩ := hc.1 n hn
  exact ⟨s, E, h1, by rw [c2]; exact h2, fun k hk => by rw [c1 k (by omega)]; exact h3 k hk, h4, h5, by rw [c3]; exact h6⟩
theorem rD_wD {ρ : RS} {p q : Nat} {v : Int32} (hp : p < 24) : rD (wD ρ (nI p) v) q = if q = p then v else rD ρ q := by
  show upd ρ.2.2.2.1 (nI p).toNatClampNeg v q = _
  rw [nI_clamp (by omega)]
  by_cases e : q = p
  · rw [if_pos e, e, upd_e]
  · rw [if_neg e, upd_n e]
    rfl
theorem Cq.wD {ρ ρ' : RS} {S D : Nat → Prop} (h : Cq ρ ρ' S D) {p : Nat} (hp : p < 24) (hD : D p) (v : Int32) : Cq ρ (wD ρ' (nI p) v) S D := ⟨h.1, fun q hq => by rw [rD_wD hp, if_neg (fun e : q = p => hq (by rw [e]; exact hD))]; exact h.2.1 q hq, h.2.2⟩
theorem RpR.wD {ρ : RS} {n : Nat} {x : Int} {i v : Int32} (h : RpR ρ n x) : RpR (wD ρ i v) n x := h
def inR (p n : Nat) : Prop := 9 * p ≤ n ∧ n < 9 * p + 9
def tmR (n : Nat) : Prop := 216 ≤ n
def PR (ρ : RS) (p : Nat) (c : Nat → Int) : Prop := (∀ i, i < 9 → RpR ρ (9 * p + i) (c i)) ∧ (∀ i, 9 ≤ i → c i = 0) ∧ rD ρ p = nI (dl c) - 1
theorem PR.cq {ρ ρ' : RS} {S D : Nat → Prop} {p : Nat} {c : Nat → Int} (h : PR ρ p c) (hc : Cq ρ ρ' S D) (hS : ∀ n, inR p n → ¬ S n) (hD : ¬ D p) : PR ρ' p c := ⟨fun i hi => (h.1 i hi).cq hc (hS _ ⟨by omega, by omega⟩), h.2.1, by rw [hc.2.1 p hD]; exact h.2.2⟩
theorem PR.zero {ρ : RS} {p : Nat} {c : Nat → Int} (h : PR ρ p c) {i : Nat} (hi : dl c ≤ i) : c i = 0 := dl_zero h.2.1 hi
theorem sp_rmeasure {p : Nat} {c : Nat → Int} {ρ : RS} {Q : RS → Prop} (hp : p < 24) (h1 : ∀ i, i < 9 → RpR ρ (9 * p + i) (c i)) (h9 : ∀ i, 9 ≤ i → c i = 0) (hQ : ∀ ρ', PR ρ' p c → Cq ρ ρ' (fun _ => False) (fun z => z = p) → Q ρ') : wpX5_measure (nI p) ρ Q := by
  show wpX5_measure_0 (nI p) Q ρ
  unfold wpX5_measure_0
  refine ⟨pk_in p _ hp, ?_⟩
  refine lq1_i (I := fun τ => ∃ k, k ≤ 9 ∧ rD τ p = nI k - 1 ∧ (∀ i, k ≤ i → c i = 0) ∧ Cq ρ τ (fun _ => False) (fun z => z = p)) (μ := fun τ => (rD τ p + 1).toNatClampNeg) ?_ _ ⟨9, Nat.le_refl _, by rw [rD_wD hp, if_pos rfl]; rfl, h9, (Cq.refl ρ (fun _ => False) (fun z => z = p)).wD hp rfl _⟩
  rintro N τ ⟨k, hk, hD, hz, hC⟩ hN
  have hfin : (k ≠ 0 → c (k - 1) ≠ 0) → Q τ := fun h => by
    have hd : dl c = k := ln_uniq (by omega) (fun i a b => hz i a) h
    exact hQ τ ⟨fun i hi => (h1 i hi).cq hC (fun z => z), h9, by rw [hd]; exact hD⟩ hC
  unfold wbX5_measure_8
  rw [nI_clamp (by omega), hD, dg_lt0 (by omega)]
  refine ⟨pk_in p _ hp, fun h => hfin (fun h2 => absurd h h2), fun h => ⟨pk_in p _ hp, ?_⟩⟩
  obtain ⟨u, rfl⟩ : ∃ u, k = u + 1 := ⟨k - 1, by omega⟩
  rw [nI_pred]
  show _ ∧ _
  rw [ia, nI_clamp (by omega), ((h1 u (by omega)).cq hC (fun z => z)).sg, sg32_eq0, hD]
  refine ⟨pk_in (9 * p + u) _ (by omega), fun h2 => hfin (fun _ => by rw [Nat.add_sub_cancel]; exact h2), fun h2 => ⟨pk_in p _ hp, pk_in p _ hp, ?_⟩⟩
  refine hN _ ⟨u, by omega, by rw [rD_wD hp, if_pos rfl, nI_pred], fun i hi => ?_, hC.wD hp rfl _⟩ ?_
  · rcases Nat.eq_or_lt_of_le hi with e | e
    · rw [← e]; exact h2
    · exact hz i e
  · show (rD (wD τ (nI p) _) p + 1).toNatClampNeg < (rD τ p + 1).toNatClampNeg
    rw [rD_wD hp, if_pos rfl, hD, nI_pred, nI_1, nI_clamp (by omega), Int32.sub_eq_add_neg, Int32.add_assoc, show (-1 + 1 : Int32) = 0 by decide, Int32.add_zero, nI_clamp (by omega)]
    omega
theorem Cr.pq {ρ ρ' : RS} {p i : Nat} (h : Cr ρ ρ' (fun z => z = 9 * p + i)) (hi : i < 9) (D : Nat → Prop) : Cq ρ ρ' (inR p) D := (h.cq D).mono (fun n hn => by rw [hn]; exact ⟨by omega, by omega⟩) (fun _ z => z)
theorem sp_rclear {p : Nat} {ρ : RS} {Q : RS → Prop} (hp : p < 24) (hQ : ∀ ρ', PR ρ' p (fun _ => 0) → Cq ρ ρ' (inR p) (fun z => z = p) → Q ρ') : wpX5_clear (nI p) ρ Q := by
  show wpX5_clear_0 (nI p) Q ρ
  unfold wpX5_clear_0
  refine lp_upR (I := fun k τ => (∀ i, i < k → RpR τ (9 * p + i) 0) ∧ Cq ρ τ (inR p) (fun z => z = p)) 9 (by omega) ?_ ρ ⟨fun i hi => absurd hi (by omega), Cq.refl _ _ _⟩
  rintro N k τ hk ⟨hL, hC⟩ hN
  unfold wbX5_clear_2
  refine pk_le 9 k (fun h1 => ⟨pk_in p _ hp, ?_⟩) (fun h1 => ?_) rfl rfl (by omega) (by omega)
  · have : k = 9 := by omega
    subst this
    exact hQ _ ⟨fun i hi => hL i hi, fun _ _ => rfl, by rw [rD_wD hp, if_pos rfl]; rfl⟩ (hC.wD hp rfl _)
  · rw [at_eq, ia]
    refine sp_rzero (by omega) (fun τ1 g1 g2 a5 ha5 => ?_)
    subst ha5
    refine hN _ h1 ⟨fun i hi => ?_, hC.trans (g2.pq h1 _)⟩
    by_cases e : i = k
    · rw [e]; exact g1
    · exact (hL i (by omega)).cr g2 (by omega)
theorem sp_rcopyAll {p q : Nat} {c : Nat → Int} {ρ : RS} {Q : RS → Prop} (hp : p < 24) (hq : q < 24) (hpq : p ≠ q) (h : PR ρ p c) (hQ : ∀ ρ', PR ρ' q c → Cq ρ ρ' (inR q) (fun z => z = q) → Q ρ') : wpX5_copyAll (nI p) (nI q) ρ Q := by
  show wpX5_copyAll_0 (nI p) (nI q) Q ρ
  unfold wpX5_copyAll_0
  refine lp_upR (I := fun k τ => (∀ i, i < k → RpR τ (9 * q + i) (c i)) ∧ Cq ρ τ (inR q) (fun z => z = q)) 9 (by omega) ?_ ρ ⟨fun i hi => absurd hi (by omega), Cq.refl _ _ _⟩
  rintro N k τ hk ⟨hL, hC⟩ hN
  unfold wbX5_copyAll_2
  refine pk_le 9 k (fun h1 => ⟨pk_in p _ hp, pk_in q _ hq, ?_⟩) (fun h1 => ?_) rfl rfl (by omega) (by omega)
  · have : k = 9 := by omega
    subst this
    refine hQ _ ⟨fun i hi => hL i hi, h.2.1, ?_⟩ (hC.wD hq rfl _)
    rw [rD_wD hq, if_pos rfl, nI_clamp (by omega), hC.2.1 p hpq]
    exact h.2.2
  · rw [at_eq, at_eq, ia, ia]
    refine sp_rcopy (by omega) (by omega) ((h.1 k h1).cq hC (by unfold inR; omega)) (fun τ1 g1 g2 a7 ha7 => ?_)
    subst ha7
    refine hN _ h1 ⟨fun i hi => ?_, hC.trans (g2.pq h1 _)⟩
    by_cases e : i = k
    · rw [e]; exact g1
    · exact (hL i (by omega)).cr g2 (by omega)
/-- the primitive part whose sign stays -/
def pst (c : Nat → Int) (i : Nat) : Int := (c i).tdiv (cnt c)
def mpS (p n : Nat) : Prop := inR p n ∨ tmR n
theorem cntN_ext {c : Nat → Int} {m n : Nat} (hm : m ≤ n) (h : ∀ i, m ≤ i → i < n → c i = 0) : cntN c n = cntN c m := by
  induction n with
  | zero => rw [Nat.le_zero.mp hm]
  | succ n ih =>
    rcases Nat.eq_or_lt_of_le hm with e | e
    · rw [e]
    · show Nat.gcd (cntN c n) (c n).natAbs = _
      rw [h n (by omega) (by omega), ih (by omega) (fun i a b => h i a (by omega))]
      exact Nat.gcd_zero_right _
theorem lc_s {c : Nat → Int} {d : Nat} (h : dl c = d + 1) : lc c = c d := by rw [lc_eq (by omega), h, Nat.add_sub_cancel]
/-- one coefficient divided by the content -/
theorem tdiv_sg {x : Int} {e : Nat} (he : (e : Int) ∣ x) (h0 : x ≠ 0) (he0 : e ≠ 0) : (x.tdiv e).natAbs = x.natAbs / e ∧ sg32 (x.tdiv e) = sg32 x ∧ x.tdiv e ≠ 0 := by
  obtain ⟨k, rfl⟩ := he
  rw [Int.mul_tdiv_cancel_left _ (by omega)]
  have hk : k ≠ 0 := fun e2 => h0 (by rw [e2, Int.mul_zero])
  refine ⟨?_, ?_, hk⟩
  · rw [Int.natAbs_mul, Int.natAbs_natCast, Nat.mul_div_cancel_left _ (by omega)]
  · rcases Int.lt_trichotomy k 0 with h | h | h
    · rw [sg32_lt h, sg32_lt (Int.mul_neg_of_pos_of_neg (by omega) h)]
    · exact absurd h hk
    · rw [sg32_pos h, sg32_pos (Int.mul_pos (by omega) h)]
theorem mk_loop {p : Nat} {c z : Nat → Int} {x2 t : Int32} {ρ : RS} {Q : RS → Prop} (hp : p < 24) (hP : PR ρ p c) (hd : dl c ≠ 0) (hc : RpR ρ 216 ((cnt c : Nat) : Int))
    (ht : ∀ i, c i ≠ 0 → (z i).natAbs = (c i).natAbs / cnt c ∧ sg32 (c i) * t = sg32 (z i) ∧ z i ≠ 0) (hz : ∀ i, c i = 0 → z i = 0)
    (hQ : ∀ ρ', PR ρ' p z → Cq ρ ρ' (mpS p) (fun _ => False) → Q ρ') : wpX5_makePrimitive_82 (nI p) x2 Q (216 : Int32) t ρ := by
  have hcn := cnt_ne hd
  have hz9 : ∀ i, 9 ≤ i → z i = 0 := fun i hi => hz i (hP.2.1 i hi)
  have hdz : dl z = dl c := by
    refine ln_uniq (dl_le c) (fun i a b => hz i (hP.zero a)) (fun h => ?_)
    have : c (dl c - 1) ≠ 0 := ln_top h
    exact (ht _ this).2.2
  have hdc := dl_le c
  unfold wpX5_makePrimitive_82
  refine lq4_i (I := fun i3 i4 i5 τ => i3 = (216 : Int32) ∧ i4 = t ∧ ∃ k, k ≤ dl c ∧ i5 = nI k ∧ (∀ i, i < 9 → RpR τ (9 * p + i) (if i < k then z i else c i)) ∧ RpR τ 216 ((cnt c : Nat) : Int) ∧ Cq ρ τ (mpS p) (fun _ => False)) (μ := fun _ _ i5 _ => dl c - i5.toNatClampNeg) ?_ _ _ _ _ ⟨rfl, rfl, 0, by omega, rfl, fun i hi => by rw [if_neg (by omega)]; exact hP.1 i hi, hc, Cq.refl _ _ _⟩
  rintro N i3 i4 i5 τ ⟨rfl, rfl, k, hk, rfl, hL, hcc, hC⟩ hN
  unfold wbX5_makePrimitive_85
  have hD : rD τ p = nI (dl c) - 1 := by rw [hC.2.1 p (fun z => z)]; exact hP.2.2
  rw [nI_clamp (by omega), hD, deg_lt (by omega) (by omega)]
  refine ⟨pk_in p _ hp, fun h1 => ?_, fun h1 => ?_⟩
  · refine hQ τ ⟨fun i hi => ?_, hz9, by rw [hdz]; exact hD⟩ hC
    have := hL i hi
    by_cases e : i < k
    · rw [if_pos e] at this
      exact this
    · rw [if_neg e] at this
      rw [hz i (hP.zero (by omega)), ← hP.zero (show dl c ≤ i by omega)]
      exact this
  · show _ ∧ _
    rw [ia, nI_clamp (by omega)]
    have hck : RpR τ (9 * p + k) (c k) := by
      have := hL k (by omega)
      rw [if_neg (by omega)] at this
      exact this
    rw [hck.sg, sg32_eq0]
    have hnext : ∀ τ', (RpR τ' (9 * p + k) (z k)) → (∀ i, i < 9 → i ≠ k → RpR τ' (9 * p + i) (if i < k then z i else c i)) → RpR τ' 216 ((cnt c : Nat) : Int) → Cq ρ τ' (mpS p) (fun _ => False) → wpX5_makePrimitive_163 (nI p) x2 Q N (216 : Int32) i4 (nI k) τ' := by
      intro τ' f1 f2 f3 f4
      unfold wpX5_makePrimitive_163
      intro a1 ha1
      subst ha1
      refine hN _ _ _ _ ⟨rfl, rfl, k + 1, by omega, nI_1 k, fun i hi => ?_, f3, f4⟩ ?_
      · by_cases e : i = k
        · rw [if_pos (by omega), e]
          exact f1
        · have := f2 i hi e
          by_cases e2 : i < k
          · rw [if_pos (by omega)]
            rw [if_pos e2] at this
            exact this
          · rw [if_neg (by omega)]
            rw [if_neg e2] at this
            exact this
      · show dl c - (nI k + 1).toNatClampNeg < dl c - (nI k).toNatClampNeg
        rw [nI_1, nI_clamp (by omega), nI_clamp (by omega)]
        omega
    refine ⟨pk_in (9 * p + k) _ (by omega), fun h2 => hnext τ (by rw [hz k h2, ← h2]; exact hck) (fun i hi _ => hL i hi) hcc hC, fun h2 => ⟨pk_in (9 * p + k) _ (by omega), fun a4 ha4 => ?_⟩⟩
    subst ha4
    refine sp_rcopy (t := 217) (by omega) (by omega) hck (fun τ1 g1 g2 => ⟨pk_in 217 _ (by omega), ?_⟩)
    have g3 : RpR (wG τ1 (nI 217) 1) 217 (((c k).natAbs : Nat) : Int) := g1.wG (by omega) (by omega) (by rw [sg32_pos (by omega)])
    have g4 : Cr τ (wG τ1 (nI 217) 1) (fun z => z = 217) := g2.wG (by omega) rfl _
    refine sp_rdivide (a := 217) (b := 216) (x := (c k).natAbs) (y := cnt c) (by omega) (by omega) (by omega) (by omega) (by omega) g3 (hcc.cr g4 (by omega)) (by omega) hcn (Or.inr ⟨9 * p + k, rfl, by omega, by omega, by omega, by omega⟩) (fun τ2 f1 f2 f3 => ⟨pk_in (9 * p + k) _ (by omega), ?_⟩)
    have f4 := f2 (9 * p + k) (by omega) rfl
    obtain ⟨t1, t2, t3⟩ := ht k h2
    rw [t2]
    have f5 : RpR (wG τ2 (nI (9 * p + k)) (sg32 (z k))) (9 * p + k) (z k) := f4.wG (by omega) (by omega) rfl
    have hS : ∀ z, dS (nI (9 * p + k)) 217 z → z = 217 ∨ z = 224 ∨ z = 9 * p + k := fun z hz => by
      rcases hz with e | e | ⟨e, e2⟩
      · omega
      · omega
      · have := (nI_eq (by omega) (by omega)).mp e2
        omega
    have f6 : Cr τ (wG τ2 (nI (9 * p + k)) (sg32 (z k))) (fun z => z = 217 ∨ z = 224 ∨ z = 9 * p + k) := ((g4.mono (fun z hz => Or.inl hz)).trans (f3.mono hS)).trans ((cr_wG (by omega) _).mono (fun z hz => Or.inr (Or.inr hz)))
    refine hnext _ f5 (fun i hi hne => (hL i hi).cr f6 (by omega)) (hcc.cr f6 (by omega)) (hC.trans ((f6.cq _).mono (fun z hz => ?_) (fun _ z => z)))
    unfold mpS inR tmR
    omega
theorem sp_rmkPrim {p : Nat} {c : Nat → Int} {x2 : Int32} {ρ : RS} {Q : RS → Prop} (hp : p < 24) (hP : PR ρ p c) (hd : dl c ≠ 0)
    (hQ : ∀ ρ', PR ρ' p (if x2 = 0 then ppos c else pst c) → Cq ρ ρ' (mpS p) (fun _ => False) → Q ρ') : wpX5_makePrimitive (nI p) x2 ρ Q := by
  have hcn := cnt_ne hd
  have hdc := dl_le c
  show wpX5_makePrimitive_0 (nI p) x2 Q ρ
  unfold wpX5_makePrimitive_0
  refine sp_rzero (n := 216) (by omega) (fun τ0 g1 g2 => ⟨pk_in p _ hp, fun a20 ha20 => ?_⟩)
  have hC0 : Cq ρ τ0 (mpS p) (fun _ => False) := (g2.cq _).mono (fun z hz => Or.inr (by unfold tmR; omega)) (fun _ z => z)
  have hP0 : PR τ0 p c := hP.cq (g2.cq (fun _ => False)) (fun n hn => by unfold inR at hn; omega) (fun z => z)
  rw [nI_clamp (by omega), hP0.2.2] at ha20
  subst ha20
  refine lq3_i (I := fun i3 i4 τ => i3 = (216 : Int32) ∧ ∃ k g, k ≤ dl c ∧ i4 = nI k - 1 ∧ RpR τ 216 ((g : Nat) : Int) ∧ Nat.gcd g (cntN c k) = cnt c ∧ PR τ p c ∧ Cq ρ τ (mpS p) (fun _ => False)) (μ := fun _ i4 _ => (i4 + 1).toNatClampNeg) ?_ _ _ _ ⟨rfl, dl c, 0, Nat.le_refl _, rfl, g1, ?_, hP0, hC0⟩
  rotate_left
  · rw [Nat.gcd_zero_left]
    exact (cntN_ext hdc (fun i a _ => hP.zero a)).symm
  clear g1 g2 hC0 hP0 τ0
  rintro N i3 i4 τ ⟨rfl, k, g, hk, rfl, hg, hgc, hPτ, hC⟩ hN
  unfold wbX5_makePrimitive_17
  rw [dg_lt0 (by omega)]
  refine ⟨fun h1 => ?_, fun h1 => ?_⟩
  · subst h1
    have hgc2 : g = cnt c := by
      have : cntN c 0 = 0 := rfl
      rw [this, Nat.gcd_zero_right] at hgc
      exact hgc
    subst hgc2
    have hdv := cnt_dvd hPτ.2.1
    have hpst : ∀ i, c i ≠ 0 → (pst c i).natAbs = (c i).natAbs / cnt c ∧ sg32 (c i) * 1 = sg32 (pst c i) ∧ pst c i ≠ 0 := fun i hi => by
      obtain ⟨t1, t2, t3⟩ := tdiv_sg (hdv i) hi hcn
      exact ⟨t1, by rw [Int32.mul_one]; exact t2.symm, t3⟩
    have hz0 : ∀ i, c i = 0 → pst c i = 0 := fun i hi => by unfold pst; rw [hi, Int.zero_tdiv]
    have h79 : ∀ zf, zf = pst c → zf = (if x2 = 0 then ppos c else pst c) → wpX5_makePrimitive_79 (nI p) x2 Q (216 : Int32) τ := fun zf hz1 hz2 => by
      unfold wpX5_makePrimitive_79
      refine mk_loop (z := pst c) hp hPτ hd hg hpst hz0 (fun ρ' f1 f2 => hQ ρ' ?_ (hC.trans f2))
      rw [← hz2, hz1]
      exact f1
    refine ⟨fun h2 => h79 _ rfl (by rw [if_neg h2]), fun h2 => ⟨pk_in p _ hp, ?_⟩⟩
    rw [nI_clamp (by omega), hPτ.2.2]
    obtain ⟨d, hdd⟩ : ∃ d, dl c = d + 1 := ⟨dl c - 1, by omega⟩
    rw [hdd, nI_pred]
    show _ ∧ _
    rw [ia, nI_clamp (by omega), (hPτ.1 d (by omega)).sg]
    have hlc := lc_s hdd
    refine ⟨pk_in (9 * p + d) _ (by omega), fun h3 => ?_, fun h3 => ?_⟩
    · have hl : ¬ lc c < 0 := by
        rw [hlc]
        intro h4
        rw [sg32_lt h4] at h3
        exact absurd h3 (by decide)
      refine h79 _ rfl ?_
      rw [if_pos h2]
      funext i
      unfold ppos
      rw [if_neg hl]
      rfl
    · have hl : lc c < 0 := by
        rw [hlc]
        rcases sg32_val (c d) with ⟨e1, e2⟩ | ⟨e1, e2⟩ | ⟨e1, e2⟩
        · exact e1
        · rw [e2] at h3; exact absurd (by decide) h3
        · rw [e2] at h3; exact absurd (by decide) h3
      refine mk_loop (z := ppos c) hp hPτ hd hg (fun i hi => ?_) (fun i hi => ?_) (fun ρ' f1 f2 => hQ ρ' ?_ (hC.trans f2))
      · obtain ⟨t1, t2, t3⟩ := tdiv_sg (hdv i) hi hcn
        unfold ppos
        rw [if_pos hl, Int.natAbs_neg, sg32_neg, t2]
        refine ⟨t1, ?_, by omega⟩
        rcases sg32_val (c i) with ⟨_, e2⟩ | ⟨_, e2⟩ | ⟨_, e2⟩ <;> rw [e2] <;> rfl
      · unfold ppos
        rw [if_pos hl, hi, Int.zero_tdiv]
        rfl
      · rw [if_pos h2]
        exact f1
  · obtain ⟨u, rfl⟩ : ∃ u, k = u + 1 := ⟨k - 1, by omega⟩
    rw [nI_pred]
    show _ ∧ _
    rw [ia, nI_clamp (by omega), (hPτ.1 u (by omega)).sg, sg32_eq0]
    have hgs : Nat.gcd (Nat.gcd g (c u).natAbs) (cntN c u) = cnt c := by
      rw [← hgc, Nat.gcd_assoc, Nat.gcd_comm (c u).natAbs]
      rfl
    have hnext : ∀ τ' g', RpR τ' 216 ((g' : Nat) : Int) → Nat.gcd g' (cntN c u) = cnt c → PR τ' p c → Cq ρ τ' (mpS p) (fun _ => False) → wpX5_makePrimitive_47 (nI p) x2 Q N (216 : Int32) (nI u) τ' := by
      intro τ' g' f1 f2 f3 f4
      unfold wpX5_makePrimitive_47
      intro a9 ha9
      subst ha9
      refine hN _ _ _ ⟨rfl, u, g', by omega, (Int32.sub_eq_add_neg _ _).symm, f1, f2, f3, f4⟩ ?_
      show (nI u + (-1) + 1).toNatClampNeg < (nI (u + 1) - 1 + 1).toNatClampNeg
      rw [m1p1, nI_pred, nI_1, nI_clamp (by omega), nI_clamp (by omega)]
      omega
    refine ⟨pk_in (9 * p + u) _ (by omega), fun h2 => ?_, fun h2 => ?_⟩
    · refine hnext τ g hg ?_ hPτ hC
      rw [h2] at hgs
      rw [← hgs]
      show Nat.gcd g _ = Nat.gcd (Nat.gcd g 0) _
      rw [Nat.gcd_zero_right]
    · rw [at_eq, ia]
      refine sp_rcommon (n := 216) (by omega) (by omega) hg (hPτ.1 u (by omega)) (fun τ1 f1 f2 => hnext τ1 _ f1 ?_ (hPτ.cq (f2.cq (fun _ => False)) (fun n hn => by unfold inR at hn; unfold gS; omega) (fun z => z)) (hC.trans ((f2.cq _).mono (fun z hz => ?_) (fun _ z => z))))
      · rw [show ((g : Nat) : Int).natAbs = g by omega]
        exact hgs
      · unfold gS at hz
        exact Or.inr (by unfold tmR; omega)
