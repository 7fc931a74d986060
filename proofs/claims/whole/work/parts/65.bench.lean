/-! PURE: rest, splits, signAt -/
theorem dgs_p1 : ∀ a, a < 10 → ∀ b, b < 10 → b ≤ a → nI a - 1 - (nI b - 1) + 1 = nI (a + 1 - b) := by decide +kernel
theorem dgs_p1neg : ∀ a, a < 10 → ∀ b, b < 10 → a < b → nI a - 1 - (nI b - 1) + 1 ≤ 0 := by decide +kernel
theorem odd32 : ∀ k, k < 12 → (¬ (nI k - nI k / 2 * 2 = 1) ↔ ¬ k % 2 = 1) := by decide +kernel
theorem pos32 : ∀ k, k < 12 → (nI k ≤ 0 ↔ k = 0) := by decide +kernel
theorem lc_eq {y : Nat → Int} (h : dl y ≠ 0) : lc y = y (dl y - 1) := if_neg h
/-- what rest leaves in the work -/
def restF (x y : Nat → Int) : Nat → Int := if (dl x + 1 - dl y) % 2 = 1 ∧ lc y < 0 then fun i => -(red y (dl y - 1) (dl x + 1 - dl y) x i) else red y (dl y - 1) (dl x + 1 - dl y) x
theorem sp_rest {p1 p2 : Nat} {c y : Nat → Int} {σ : CS} {Q : CS → Prop} (hp1 : p1 < 8) (hp2 : p2 < 8) (h1 : Pl σ p1 c) (h2 : Pl σ p2 y) (hy0 : dl y ≠ 0) (hb1 : ∀ i, (c i).natAbs < 2147483648 ^ 6) (hb2 : ∀ i, (y i).natAbs < 2147483648 ^ 6)
    (hQ : ∀ σ', Pl σ' 8 (restF c y) → Cg σ σ' bS bD → Q σ') : wpX0_rest p1 p2 σ Q := by
  have hdc := dl_le c
  have hdy := dl_le y
  show wpX0_rest_0 p1 p2 Q σ
  unfold wpX0_rest_0
  refine sp_loadWork (by omega) h1 (fun i => lt_cap (hb1 i) (by omega)) (fun σ1 hP1 hC1 => ?_)
  have hPy := h2.b hC1 (by omega) (by omega)
  have hbb : 2147483648 ^ 6 * (2 * 2147483648 ^ 6) ^ (dl c + 1 - dl y) < 2147483648 ^ 299 := by
    refine Nat.lt_of_le_of_lt (Nat.mul_le_mul_left _ (Nat.pow_le_pow_right (by decide) (show dl c + 1 - dl y ≤ 9 by omega))) ?_
    decide +kernel
  refine sp_reduce (by omega) (by omega) hP1 hPy hy0 (fun i => Nat.le_of_lt (hb1 i)) (fun i => Nat.le_of_lt (hb2 i)) hbb (fun σ2 hP2 hC2 a5 ha5 => ?_)
  have hC := hC1.trans hC2
  have hPx2 := h1.b hC (by omega) (by omega)
  have hPy2 := h2.b hC (by omega) (by omega)
  rw [hPx2.2.2, hPy2.2.2] at ha5
  have hstay : ¬ ((dl c + 1 - dl y) % 2 = 1 ∧ lc y < 0) → Q σ2 := fun hn => hQ σ2 (by unfold restF; rw [if_neg hn]; exact hP2) hC
  by_cases hlt : dl c < dl y
  · have : a5 ≤ 0 := by rw [ha5]; exact dgs_p1neg _ (by omega) _ (by omega) hlt
    exact ⟨fun _ => hstay (by omega), fun h => absurd this h⟩
  · rw [dgs_p1 _ (by omega) _ (by omega) (by omega)] at ha5
    subst ha5
    rw [pos32 _ (by omega)]
    refine ⟨fun h => absurd h (by omega), fun _ => ⟨fun h => hstay ?_, fun h => ?_⟩⟩
    · have := (odd32 _ (by omega)).mp h
      omega
    · have hodd : (dl c + 1 - dl y) % 2 = 1 := by
        by_cases e : (dl c + 1 - dl y) % 2 = 1
        · exact e
        · exact absurd h ((odd32 _ (by omega)).mpr e)
      refine sp_leadSign hPy2 ⟨fun h3 => ?_, fun h3 => ?_⟩
      · refine hstay (fun h4 => ?_)
        rw [sg32_lt h4.2] at h3
        exact absurd h3 (by decide)
      · refine sp_pneg hP2 (fun σ3 hP3 hC3 => hQ σ3 ?_ (hC.trans (hC3.mono (fun _ z => Or.inl z) (fun _ z => z.elim))))
        have hneg : lc y < 0 := by
          rcases Int.lt_or_le (lc y) 0 with h5 | h5
          · exact h5
          · refine absurd ?_ h3
            rw [sg32_pos (by have := lc_ne hy0; omega)]
            decide
        unfold restF
        rw [if_pos ⟨hodd, hneg⟩]
        exact hP3
def dvq (y : Nat → Int) (d : Nat) (W : Nat → Int) (u : Nat) : Int := (W (d + u)).tdiv (y d)
def dvS (y : Nat → Int) (d : Nat) (W : Nat → Int) (u i : Nat) : Int := if u ≤ i ∧ i < d + u then W i - dvq y d W u * y (i - u) else if i = d + u then 0 else W i
def dvOK (y : Nat → Int) (d : Nat) : Nat → (Nat → Int) → Prop
  | 0, W => ∀ i, W i = 0
  | u + 1, W => (W (d + u)).tmod (y d) = 0 ∧ dvOK y d u (dvS y d W u)
def dvQ (y : Nat → Int) (d : Nat) : Nat → (Nat → Int) → Nat → Int
  | 0, _ => fun _ => 0
  | u + 1, W => pu (dvQ y d u (dvS y d W u)) u (dvq y d W u)
/-- the sizes on the way: k digits -/
def dvB (y : Nat → Int) (d k : Nat) : Nat → (Nat → Int) → Prop
  | 0, _ => True
  | u + 1, W => (∀ i, (W i).natAbs < 2147483648 ^ k) ∧ ((W (d + u)).tmod (y d) = 0 → (∀ i, (dvq y d W u * y i).natAbs < 2147483648 ^ 298) ∧ dvB y d k u (dvS y d W u))
theorem dvQ_top {y : Nat → Int} {d : Nat} : ∀ {u : Nat} {W : Nat → Int} {i : Nat}, u ≤ i → dvQ y d u W i = 0 := by
  intro u
  induction u with
  | zero => intro W i _; rfl
  | succ u ih =>
    intro W i hi
    show pu _ u _ i = 0
    rw [pu_n (by omega)]
    exact ih (by omega)
def bS9 (w : Nat) : Prop := inP 8 w ∨ inP 9 w ∨ (320 ≤ w ∧ w < 324)
def bD9 (p : Nat) : Prop := p = 8 ∨ p = 9
theorem Cg.b9 {σ σ' : CS} (h : Cg σ σ' bS bD) : Cg σ σ' bS9 bD9 := h.mono (fun _ z => z.elim Or.inl (fun z => Or.inr (Or.inr z))) (fun _ z => Or.inl z)
theorem Pl.b9 {σ σ' : CS} {p : Nat} {c : Nat → Int} (h : Pl σ p c) (hc : Cg σ σ' bS9 bD9) (hp : p ≠ 8) (hp9 : p ≠ 9) (hp2 : p < 20) : Pl σ' p c :=
  h.cg hc (fun w hw z => by rcases z with z | z | z; exact inP_ne hp hw z; exact inP_ne hp9 hw z; exact absurd hw.2 (by omega)) (fun z => z.elim hp hp9)
theorem tlen9 : tlen 9 = 9 := rfl
theorem cap9 {i : Nat} (h : i < 9) : capW (16 * 9 + i) = 60 := cap_t 9 (by omega) i h
theorem sp_splits {p1 p2 : Nat} {c y : Nat → Int} {σ : CS} {Q : Int32 → CS → Prop} (hp1 : p1 < 20) (hp2 : p2 < 20) (hp18 : p1 ≠ 8) (hp28 : p2 ≠ 8) (hp29 : p2 ≠ 9) (h1 : Pl σ p1 c) (h2 : Pl σ p2 y) (hb1 : ∀ i, (c i).natAbs < 2147483648 ^ 300) (hB : dl y ≠ 0 → dvB y (dl y - 1) 60 (dl c + 1 - dl y) c)
    (hQ : ∀ (r : Int32) σ', Cg σ σ' bS9 bD9 → (r = 0 ∧ (dl y = 0 ∨ ¬ dvOK y (dl y - 1) (dl c + 1 - dl y) c)) ∨ (r = 1 ∧ dl y ≠ 0 ∧ dvOK y (dl y - 1) (dl c + 1 - dl y) c ∧ Pl σ' 9 (dvQ y (dl y - 1) (dl c + 1 - dl y) c)) → Q r σ') : wpX0_splits p1 p2 σ Q := by
  have hdc := dl_le c
  have hdy := dl_le y
  have hly := h2.len
  have t2 := tlen_le p2
  have t8 := tlen8
  have t9 := tlen9
  show wpX0_splits_0 p1 p2 Q σ
  unfold wpX0_splits_0
  rw [h2.2.2, deg_nn hdy]
  refine ⟨fun hy0 => ?_, fun h => hQ 0 σ (Cg.refl _ _ _) (Or.inl ⟨rfl, Or.inl (by omega)⟩)⟩
  refine sp_loadWork hp18 h1 hb1 (fun σ1 hP1 hC1 => sp_pclear (by omega) (fun σ2 hP2 hC2 a23 ha23 => ?_))
  have hC0 : Cg σ σ2 bS9 bD9 := hC1.b9.trans (hC2.mono (fun _ z => Or.inr (Or.inl z)) (fun _ z => Or.inr z))
  obtain ⟨d, hd⟩ : ∃ d, dl y = d + 1 := ⟨dl y - 1, by omega⟩
  have hd' : nI (dl y) - 1 = nI d := by rw [deg_s hy0, hd, Nat.add_sub_cancel]
  have hP8 : Pl σ2 8 c := hP1.cg hC2 (fun w hw => inP_ne (by omega) hw) (by omega)
  have hPy0 : Pl σ2 p2 y := h2.b9 hC0 hp28 hp29 hp2
  rw [hP8.2.2, hPy0.2.2] at ha23
  have hB' := hB hy0
  rw [show dl y - 1 = d by omega] at *
  -- the end
  have hend : ∀ τ V q, Wk τ V → (∀ i, i < 9 → RpW τ (16 * 9 + i) (q i)) → (∀ i, 9 ≤ i → V i = 0) → (∀ i, 9 ≤ i → q i = 0) → Cg σ τ bS9 bD9 → ((∀ i, V i = 0) → dvOK y d (dl c + 1 - dl y) c ∧ q = dvQ y d (dl c + 1 - dl y) c) → (¬ (∀ i, V i = 0) → ¬ dvOK y d (dl c + 1 - dl y) c) → wpX2_measure 9 τ (fun σ11 => wpX2_measure 8 σ11 (fun σ13 => (0 ≤ cD σ13 8 → Q 0 σ13) ∧ (¬ 0 ≤ cD σ13 8 → Q 1 σ13))) := by
    intro τ V q hV hq hV9 hq9 hC hyes hno
    refine sp_measure (by omega) hq hq9 (fun τ1 g1 g2 => sp_measure (by omega) (c := V) (fun i hi => ?_) hV9 (fun τ2 g3 g4 => ?_))
    · exact (hV i hi).cg g2 (fun z => z)
    · have hC2 : Cg σ τ2 bS9 bD9 := (hC.trans (g2.mono (fun _ z => z.elim) (fun _ z => Or.inr z))).trans (g4.mono (fun _ z => z.elim) (fun _ z => Or.inl z))
      have hdV := dl_le V
      rw [g3.2.2, deg_nn hdV]
      refine ⟨fun h => ?_, fun h => ?_⟩
      · refine hQ 0 τ2 hC2 (Or.inl ⟨rfl, Or.inr (hno (fun hz => ?_))⟩)
        have : V (dl V - 1) ≠ 0 := ln_top h
        exact this (hz _)
      · have hz : ∀ i, V i = 0 := fun i => g3.zero (by omega)
        obtain ⟨y1, y2⟩ := hyes hz
        refine hQ 1 τ2 hC2 (Or.inr ⟨rfl, hy0, y1, ?_⟩)
        rw [← y2]
        exact g1.cg g4 (fun _ _ z => z) (by omega)
  by_cases hlt : dl c + 1 < dl y
  · refine ⟨1, ?_⟩
    show wbX0_splits_37 p1 p2 Q _ _ _
    unfold wbX0_splits_37
    have hneg : a23 < 0 := by
      rw [ha23]
      exact dgs_neg _ (by omega) _ (by omega) hlt
    have hK : dl c + 1 - dl y = 0 := by omega
    exact ⟨fun _ => hend σ2 c (fun _ => 0) hP8.wk (fun i hi => hP2.1 i hi) (fun j hj => h1.top hj) (fun _ _ => rfl) hC0 (by rw [hK]; exact fun h => ⟨h, rfl⟩) (by rw [hK]; exact fun h => h), fun h => absurd hneg h⟩
  · have hK : a23 = nI (dl c + 1 - dl y) - 1 := by
      rw [ha23]
      exact dgs _ (by omega) _ (by omega) (by omega)
    refine lp_dn (I := fun k τ => ∃ V q, Wk τ V ∧ (∀ i, i < 9 → RpW τ (16 * 9 + i) (q i)) ∧ (∀ i, i < k → q i = 0) ∧ (∀ i, 9 ≤ i → V i = 0) ∧ (∀ i, 9 ≤ i → q i = 0) ∧ (dvOK y d k V ↔ dvOK y d (dl c + 1 - dl y) c) ∧ (∀ i, i < k → dvQ y d k V i = dvQ y d (dl c + 1 - dl y) c i) ∧ (∀ i, k ≤ i → q i = dvQ y d (dl c + 1 - dl y) c i) ∧ dvB y d 60 k V ∧ Cg σ τ bS9 bD9) (dl c + 1 - dl y) (by omega) ?_ σ2 ⟨c, fun _ => 0, hP8.wk, fun i hi => hP2.1 i hi, fun _ _ => rfl, fun i hi => h1.top hi, fun _ _ => rfl, Iff.rfl, fun _ _ => rfl, fun i hi => (dvQ_top hi).symm, hB', hC0⟩ hK
    rintro N k τ hk ⟨V, q, hV, hq, hq0, hV9, hq9, hok, hdq, hqe, hb, hC⟩ hN
    unfold wbX0_splits_37
    rw [dg_lt0 (by omega)]
    refine ⟨fun hk0 => ?_, fun hk0 => ?_⟩
    · subst hk0
      exact hend τ V q hV hq hV9 hq9 hC (fun h => ⟨hok.mp h, funext (fun i => hqe i (by omega))⟩) (fun h h2 => h (hok.mpr h2))
    · obtain ⟨u, rfl⟩ : ∃ u, k = u + 1 := ⟨k - 1, by omega⟩
      have hPy : Pl τ p2 y := h2.b9 hC hp28 hp29 hp2
      have e1 : nI (u + 1) - 1 = nI u := by rw [deg_s (by omega), Nat.add_sub_cancel]
      have hdu : d + u < 9 := by omega
      rw [e1, hPy.2.2, hd', nI_add, nI_clamp (by omega), nI_clamp (by omega), nI_clamp (by omega)]
      refine ⟨pk_in (d + u) _ (by omega), pk_in d _ (by omega), pk_in u _ (by omega), sp_divide (by omega) (by omega) (by omega) (hV (d + u) hdu) (hPy.1 d (by omega)) (by rw [cap9 (by omega)]; exact hb.1 _) (fun τ1 hr1 hr2 hc1 => ?_)⟩
      have hC1' : Cg σ τ1 bS9 bD9 := hC.trans ((hc1.cg _).mono (fun w hw => by rcases hw with hw | hw; exact Or.inl ⟨by omega, by omega⟩; exact Or.inr (Or.inl ⟨by omega, by omega⟩)) (fun _ z => z))
      rw [hr2.sg]
      refine ⟨fun hz => ?_, fun hz => hQ 0 τ1 hC1' (Or.inl ⟨rfl, Or.inr (fun h => hz (sg32_eq0.mpr (hok.mpr h).1))⟩)⟩
      have hz' : (V (d + u)).tmod (y d) = 0 := sg32_eq0.mp hz
      obtain ⟨hb2, hb3⟩ := hb.2 hz'
      rw [hz'] at hr2
      have hr1' : RpW τ1 (16 * 9 + u) (dvq y d V u) := hr1
      -- the inner loop
      refine lp_up3 (nI u) (I := fun k τ => Wk τ (fun i => if u ≤ i ∧ i < k + u then V i - dvq y d V u * y (i - u) else if i = d + u then 0 else V i) ∧ (∀ i, i < 9 → RpW τ (16 * 9 + i) (pu q u (dvq y d V u) i)) ∧ Cg σ τ bS9 bD9) d (by omega) ?_ τ1 ⟨fun i hi => ?_, fun i hi => ?_, hC1'⟩
      · rintro N2 k τ3 hk3 ⟨hW3, hq3, hC3⟩ hN2
        have hPy3 : Pl τ3 p2 y := h2.b9 hC3 hp28 hp29 hp2
        unfold wbX0_splits_93
        rw [hPy3.2.2, hd', nI_clamp (by omega), nI_clamp (by omega), nI_add, nI_clamp (by omega)]
        refine pk_le d k (fun hh a1 ha1 => ?_) (fun hh => ⟨pk_in u _ (by omega), pk_in k _ (by omega), ?_⟩) rfl rfl (by omega) (by omega)
        · subst ha1
          have e2 : k = d := by omega
          subst e2
          refine hN u τ3 rfl ⟨dvS y k V u, pu q u (dvq y k V u), hW3, hq3, fun i hi => ?_, fun i hi => ?_, fun i hi => ?_, ?_, fun i hi => ?_, fun i hi => ?_, hb3, hC3⟩
          · rw [pu_n (by omega)]
            exact hq0 i (by omega)
          · unfold dvS
            rw [if_neg (by omega), if_neg (by omega)]
            exact hV9 i hi
          · rw [pu_n (by omega)]
            exact hq9 i hi
          · rw [← hok]
            exact ⟨fun h => ⟨hz', h⟩, fun h => h.2⟩
          · rw [← hdq i (by omega)]
            show _ = pu _ u _ i
            rw [pu_n (by omega)]
          · rcases Nat.eq_or_lt_of_le hi with e | e
            · subst e
              rw [pu_e, ← hdq u (by omega)]
              show _ = pu _ u _ u
              rw [pu_e]
            · rw [pu_n (by omega)]
              exact hqe i (by omega)
        · have hqu := hq3 u (by omega)
          rw [pu_e] at hqu
          refine sp_prod (by omega) (by omega) hqu (hPy3.1 k (by omega)) (capT (by omega) (by omega) (by omega)) (lt_cap (hb2 k) (by omega)) (fun τ4 hr4 hc4 => ⟨pk_in (k + u) _ (by omega), ?_⟩)
          have hW4 := hW3.t hc4 (by omega)
          have hr := hW4 (k + u) (by omega)
          dsimp only at hr
          rw [if_neg (by omega), if_neg (by omega)] at hr
          refine sp_plus (s := -(dvq y d V u * y k)) (by omega) hr hr4 (if_neg (by decide)).symm ?_ ?_ (fun τ5 hr5 hc5 a9 ha9 => ?_)
          · rw [cap8 (by omega)]
            exact lt_cap (hb2 k) (by omega)
          · rw [cap8 (by omega)]
            exact lt_cap (bd_add (k := 298) (lt_cap (hb.1 _) (by omega)) (by rw [Int.natAbs_neg]; exact hb2 k)) (by omega)
          · subst ha9
            refine hN2 τ5 hh ⟨(hW4.pu hc5 hr5).congr (fun i hi => ?_), fun i hi => ((hq3 i hi).ch hc4 (by omega)).ch hc5 (by omega), (hC3.trans (hc4.b3 (by omega)).b9).trans (hc5.b8 (by omega)).b9⟩
            by_cases e : i = k + u
            · subst e
              rw [pu_e, if_pos (by omega), Nat.add_sub_cancel, Int.sub_eq_add_neg]
            · rw [pu_n e]
              by_cases e2 : u ≤ i ∧ i < k + u
              · rw [if_pos e2, if_pos (by omega)]
              · rw [if_neg e2, if_neg (c := u ≤ i ∧ i < k + 1 + u) (by omega)]
      · dsimp only
        rw [if_neg (by omega)]
        by_cases e : i = d + u
        · rw [if_pos e, e]
          exact hr2
        · rw [if_neg e]
          exact (hV i hi).ch hc1 (by omega)
      · by_cases e : i = u
        · rw [e, pu_e]
          exact hr1'
        · rw [pu_n e]
          exact (hq i hi).ch hc1 (by omega)
/-- Horner's way with a / b -/
def hvo (c : Nat → Int) (a b : Int) : Nat → Int → Int → Int
  | 0, o, _ => o
  | k + 1, o, t => hvo c a b k (o * a + c k * t) (t * b)
theorem sp_signAt {p1 : Nat} {y2 y3 : Int64} {c : Nat → Int} {σ : CS} {Q : Int32 → CS → Prop} (hp1 : p1 < 20) (h1 : Pl σ p1 c) (hb : ∀ i, (c i).natAbs < 2147483648 ^ 100) (ha2 : y2.toInt.natAbs ≤ 2147483648) (ha3 : y3.toInt.natAbs ≤ 2147483648)
    (hQ : ∀ σ', Cg σ σ' (fun w => 320 ≤ w) (fun _ => False) → Q (sg32 (hvo c y2.toInt y3.toInt (dl c) 0 1)) σ') : wpX0_signAt p1 y2 y3 σ Q := by
  have hdc := dl_le c
  have hlc := h1.len
  have t1 := tlen_le p1
  show wpX0_signAt_0 p1 y2 y3 Q σ
  unfold wpX0_signAt_0
  refine sp_clear (fun σ1 hr1 hc1 => sp_setOne (fun σ2 hr2 hc2 a15 ha15 => ?_))
  have hT : ∀ {τ τ' : CS} {n : Nat}, Ch τ τ' (fun z => z = n) → 320 ≤ n → Cg τ τ' (fun w => 320 ≤ w) (fun _ => False) := fun h hn => (h.cg _).mono (fun w hw => by omega) (fun _ z => z)
  have hC0 := (hT hc1 (by omega)).trans (hT hc2 (by omega))
  have hst : ∀ {τ : CS}, Cg σ τ (fun w => 320 ≤ w) (fun _ => False) → Pl τ p1 c := fun hC => h1.cg hC (fun w hw h => absurd hw.2 (by omega)) (fun z => z)
  rw [(hst hC0).2.2] at ha15
  refine lp_dn (I := fun k τ => ∃ o t, RpW τ 320 o ∧ RpW τ 321 t ∧ o.natAbs < 2147483648 ^ (100 + 6 * (9 - k)) ∧ t.natAbs < 2147483648 ^ (1 + 2 * (9 - k)) ∧ hvo c y2.toInt y3.toInt k o t = hvo c y2.toInt y3.toInt (dl c) 0 1 ∧ Cg σ τ (fun w => 320 ≤ w) (fun _ => False)) (dl c) (by omega) ?_ σ2 ⟨0, 1, hr1.ch hc2 (by omega), hr2, Nat.pow_pos (by omega), Nat.one_lt_pow (by omega) (by omega), rfl, hC0⟩ ha15
  rintro N k τ hk ⟨o, t, ho, htt, hbo, hbt, he, hC⟩ hN
  unfold wbX0_signAt_20
  rw [dg_lt0 (by omega)]
  refine ⟨fun hk0 => ?_, fun hk0 => ?_⟩
  · subst hk0
    rw [ho.sg]
    have : o = hvo c y2.toInt y3.toInt (dl c) 0 1 := he
    rw [this]
    exact hQ τ hC
  · obtain ⟨u, rfl⟩ : ∃ u, k = u + 1 := ⟨k - 1, by omega⟩
    have e1 : nI (u + 1) - 1 = nI u := by rw [deg_s (by omega), Nat.add_sub_cancel]
    rw [e1, nI_clamp (by omega)]
    have c320 : capW 320 = 300 := rfl
    have c321 : capW 321 = 300 := rfl
    have c322 : capW 322 = 300 := rfl
    have q1 := bd_t hbo ha2
    have q2 := bd_t hbt ha3
    have q3 := bd_mul (hb u) hbt
    refine sp_scale ho rfl ha2 (by rw [c320]; exact lt_cap q1 (by omega)) (fun τ1 hr1 hc1 => ⟨pk_in u _ (by omega), ?_⟩)
    have hC1 := hC.trans (hT hc1 (by omega))
    refine sp_prod (by omega) (by omega) ((hst hC1).1 u (by omega)) (htt.ch hc1 (by omega)) c322 (lt_cap q3 (by omega)) (fun τ2 hr2 hc2 => ?_)
    refine sp_plus (s := c u * t) (by omega) (hr1.ch hc2 (by omega)) hr2 (if_pos (by decide)).symm ?_ ?_ (fun τ3 hr3 hc3 => ?_)
    · rw [c320]
      exact lt_cap q3 (by omega)
    · rw [c320]
      exact lt_cap (bd_add (k := 100 + 6 * (9 - (u + 1)) + 3) (lt_cap q1 (by omega)) (lt_cap q3 (by omega))) (by omega)
    · refine sp_scale ((htt.ch hc1 (by omega)).ch hc2 (by omega) |>.ch hc3 (by omega)) rfl ha3 (by rw [c321]; exact lt_cap q2 (by omega)) (fun τ4 hr4 hc4 a10 ha10 => ?_)
      subst ha10
      exact hN u τ4 rfl ⟨_, _, hr3.ch hc4 (by omega), hr4, lt_cap (bd_add (k := 100 + 6 * (9 - (u + 1)) + 3) (lt_cap q1 (by omega)) (lt_cap q3 (by omega))) (by omega), lt_cap q2 (by omega), he, ((hC1.trans (hT hc2 (by omega))).trans (hT hc3 (by omega))).trans (hT hc4 (by omega))⟩
