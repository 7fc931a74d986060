/-! PURE: setOne, load, compareAbs, isLike, join, differ, plus -/
def Raw (σ : CS) (w n : Nat) : Prop := cS σ w = nI n ∧ n ≤ capW w ∧ okd (cF σ w) n
theorem RpW.raw {σ : CS} {w : Nat} {x : Int} (h : RpW σ w x) : ∃ n, Raw σ w n ∧ (n ≠ 0 → cF σ w (n - 1) ≠ 0) ∧ x.natAbs = mag (cF σ w) n ∧ cG σ w = sg32 x := by
  obtain ⟨n, h1, h2, h3, h4, h5, h6⟩ := h
  exact ⟨n, ⟨h2, h1, h3⟩, h4, h5, h6⟩
theorem ofN (n : Nat) : Int32.ofNat n = nI n := rfl
theorem upd_e (f : Nat → Int32) (k : Nat) (x : Int32) : upd f k x k = x := by simp [upd]
theorem upd_n {f : Nat → Int32} {k j : Nat} {x : Int32} (h : j ≠ k) : upd f k x j = f j := by simp [upd, h]
theorem sp_setOne {w : Nat} {σ : CS} {Q : CS → Prop} (hQ : ∀ σ', RpW σ' w 1 → Ch σ σ' (fun z => z = w) → Q σ') : wpX3_setOne w σ Q := by
  have hcap := capW_le w
  have hcap2 := capW_pos w
  show wpX3_put_0 w 0 1 1 (fun σ4 => Q σ4) (sG (sS σ w 0) w 0)
  unfold wpX3_put_0
  rw [ofN]
  refine ⟨fun h => absurd h (by decide), fun _ => ⟨fun _ => ⟨pk_in 0 (capW w) (by omega) nI_0.symm, fun h => absurd h (by decide), fun _ => ?_⟩, fun h => absurd ((nI_ltI (a := 0) (b := capW w) (by omega) (by omega)).mpr (by omega)) h⟩⟩
  have hf : cF (sFi (sG (sS σ w 0) w 0) w 0 1) w 0 = nI 1 := by rw [cF_sFi]; exact upd_e _ _ _
  refine hQ _ ⟨1, by omega, ?_, ?_, ?_, ?_, ?_⟩ (((Ch.sS σ w _).trans (Ch.sG _ w _)).trans (((Ch.sFi _ w _ _).trans (Ch.sS _ w _)).trans (Ch.sG _ w _)))
  · rw [cS_sG, cS_sS]; rfl
  · rw [cF_sG, cF_sS]
    refine okd_of (fun i hi => ⟨1, by omega, ?_⟩)
    have : i = 0 := by omega
    subst this
    exact hf
  · intro _
    rw [cF_sG, cF_sS]
    show cF _ w 0 ≠ 0
    rw [hf]
    decide
  · rw [cF_sG, cF_sS, mag_1, dg_nI hf (by omega)]
    rfl
  · rw [cG_sG]; rfl
theorem cap_min {n c : Nat} (h : n ≤ c) (hc : c ≤ 300) : (if nI c < nI n then nI c else nI n) = nI n := by
  rw [if_neg]
  intro h1
  have := (nI_ltI (by omega) (by omega)).mp h1
  omega
theorem sp_load {w0 w1 : Nat} {σ : CS} {y : Int} {Q : CS → Prop} (h : RpW σ w1 y) (hy : y.natAbs < 2147483648 ^ capW w0) (hQ : ∀ σ', RpW σ' w0 y → Ch σ σ' (fun z => z = w0) → Q σ') : wpX3_load w0 w1 σ Q := by
  obtain ⟨n, h1, h2, h3, h4, h5, h6⟩ := h
  have hc0 := capW_le w0
  have hc1 := capW_le w1
  have hn : n ≤ capW w0 := rp_size h3 h4 (by rw [← h5]; exact hy)
  show wpX3_load_0 w0 w1 Q σ
  unfold wpX3_load_0
  intro a1 ha
  rw [ofN, h2, cap_min hn hc0] at ha
  subst ha
  have e1 : cS (sG (sS σ w0 (nI n)) w0 (cG (sS σ w0 (nI n)) w1)) w0 = nI n := by rw [cS_sG, cS_sS]
  have e0 : (0 : Int32).toNatClampNeg = 0 := rfl
  have e2 : cG (sS σ w0 (nI n)) w1 = sg32 y := h6
  rw [e1, e0, nI_clamp (by omega)]
  refine ⟨by decide, by decide, nI_pos (by omega), by omega, by omega, ?_⟩
  have e3 : cF (sG (sS σ w0 (nI n)) w0 (cG (sS σ w0 (nI n)) w1)) w1 = cF σ w1 := rfl
  rw [e3]
  generalize hf : va_cpy (cF σ w1) (cF (sG (sS σ w0 (nI n)) w0 (cG (sS σ w0 (nI n)) w1)) w0) 0 0 n = f
  have hfi : ∀ i, i < n → f i = cF σ w1 i := by
    intro i hi
    rw [← hf, pk_cpy_in (Nat.zero_le _) (by omega)]
    congr 1
    omega
  refine sp_trimR (n := n) (x := y) ?_ hn ?_ ?_ ?_ (fun σ' hr hc hF => hQ σ' hr (((Ch.sS σ w0 _).trans (Ch.sG _ w0 _)).trans ((Ch.sF _ w0 _).trans hc)))
  · rw [cS_sF, e1]
  · rw [cF_sF]
    exact okd_congr hfi h3
  · rw [cF_sF, mag_congr hfi]
    exact h5
  · intro _
    rw [cG_sF, cG_sG]
    exact e2
/-! comparing -/
def cmp32 (a b : Nat) : Int32 := if a < b then -1 else if a = b then 0 else 1
theorem mag_ext {f g : Nat → Int32} {m n : Nat} (hm : m ≤ n) (h : ∀ j, m ≤ j → j < n → f j = g j) : mag f n + mag g m = mag g n + mag f m := by
  induction n with
  | zero =>
    have : m = 0 := by omega
    subst this
    rfl
  | succ n ih =>
    rcases Nat.eq_or_lt_of_le hm with e | e
    · subst e
      omega
    · have h1 := ih (by omega) (fun j h1 h2 => h j h1 (by omega))
      rw [mag_s, mag_s, show dg f n = dg g n by unfold dg; rw [h n (by omega) (by omega)]]
      omega
theorem mag_less {f g : Nat → Int32} {k n : Nat} (hk : k < n) (h : ∀ j, k + 1 ≤ j → j < n → f j = g j) (hd : dg f k < dg g k) : mag f n < mag g n := by
  have h1 := mag_ext (f := f) (g := g) (m := k + 1) (by omega) h
  have h2 := mag_lt f k
  rw [mag_s, mag_s] at h1
  have h3 : (dg f k + 1) * 2147483648 ^ k ≤ dg g k * 2147483648 ^ k := Nat.mul_le_mul_right _ hd
  rw [Nat.succ_mul] at h3
  omega
theorem sp_compareAbs {w0 w1 : Nat} {σ : CS} {x y : Int} {Q : Int32 → CS → Prop} (hx : RpW σ w0 x) (hy : RpW σ w1 y) (hQ : Q (cmp32 x.natAbs y.natAbs) σ) : wpX3_compareAbs w0 w1 σ Q := by
  obtain ⟨n, h1, h2, h3, h4, h5, h6⟩ := hx
  obtain ⟨m, g1, g2, g3, g4, g5, g6⟩ := hy
  have hc0 := capW_le w0
  have hc1 := capW_le w1
  show wpX3_compareAbs_0 w0 w1 Q σ
  unfold wpX3_compareAbs_0
  rw [h5, g5] at hQ
  rw [h2, g2]
  refine pk_eq n m (fun e => ?_) (fun e => ?_) rfl rfl (by omega) (by omega)
  · subst e
    intro a ha
    refine lq2_i (I := fun a τ => τ = σ ∧ ∃ k, k ≤ n ∧ a = nI k - 1 ∧ ∀ j, k ≤ j → j < n → cF σ w0 j = cF σ w1 j) (μ := fun a _ => (a + 1).toNatClampNeg) ?_ a σ ⟨rfl, n, Nat.le_refl _, ha, fun j hj1 hj2 => absurd hj2 (by omega)⟩
    rintro N a τ ⟨rfl, k, hk, rfl, heq⟩ hN
    unfold wbX3_compareAbs_35
    rcases Nat.eq_zero_or_pos k with e | e
    · subst e
      refine ⟨fun _ => ?_, fun h => absurd (by decide) h⟩
      have : mag (cF τ w0) n = mag (cF τ w1) n := mag_congr (fun i hi => heq i (by omega) hi)
      rw [this] at hQ
      unfold cmp32 at hQ
      rw [if_neg (by omega), if_pos rfl] at hQ
      exact hQ
    · have e1 : nI k - 1 = nI (k - 1) := by
        rw [show k = k - 1 + 1 by omega]
        exact nI_pred _
      rw [e1]
      refine ⟨fun h => absurd h (nI_pos (by omega)), fun _ => ?_⟩
      refine ⟨pk_in (k - 1) _ (by omega), pk_in (k - 1) _ (by omega), ?_⟩
      rw [nI_clamp (by omega)]
      refine ⟨fun hd a ha => ?_, fun hd => ⟨pk_in (k - 1) _ (by omega), pk_in (k - 1) _ (by omega), fun hle => ?_, fun hle => ?_⟩⟩
      · subst ha
        refine hN _ _ ⟨rfl, k - 1, by omega, (Int32.sub_eq_add_neg _ _).symm, fun j h7 h8 => ?_⟩ ?_
        · rcases Nat.eq_or_lt_of_le h7 with e7 | e7
          · rw [← e7]; exact hd
          · exact heq j (by omega) h8
        · show (nI (k - 1) + -1 + 1 : Int32).toNatClampNeg < (nI k - 1 + 1 : Int32).toNatClampNeg
          rw [e1, Int32.add_assoc, show (-1 + 1 : Int32) = 0 by decide, Int32.add_zero, nI_1, nI_clamp (by omega), nI_clamp (by omega)]
          omega
      · rw [h3 (k - 1) (by omega), g3 (k - 1) (by omega), nI_leI (by have := dg_lt (cF τ w1) (k - 1); omega) (by have := dg_lt (cF τ w0) (k - 1); omega)] at hle
        have hne : dg (cF τ w0) (k - 1) ≠ dg (cF τ w1) (k - 1) := fun e9 => hd (by rw [h3 (k - 1) (by omega), g3 (k - 1) (by omega), e9])
        have h9 := mag_less (f := cF τ w1) (g := cF τ w0) (k := k - 1) (n := n) (by omega) (fun j h7 h8 => (heq j (by omega) h8).symm) (by omega)
        unfold cmp32 at hQ
        rw [if_neg (by omega), if_neg (by omega)] at hQ
        exact hQ
      · rw [h3 (k - 1) (by omega), g3 (k - 1) (by omega), nI_leI (by have := dg_lt (cF τ w1) (k - 1); omega) (by have := dg_lt (cF τ w0) (k - 1); omega)] at hle
        have h9 := mag_less (f := cF τ w0) (g := cF τ w1) (k := k - 1) (n := n) (by omega) (fun j h7 h8 => heq j (by omega) h8) (by omega)
        unfold cmp32 at hQ
        rw [if_pos h9] at hQ
        exact hQ
  · refine pk_le m n (fun h => ?_) (fun h => ?_) rfl rfl (by omega) (by omega)
    · obtain ⟨k, rfl⟩ : ∃ k, n = k + 1 := ⟨n - 1, by omega⟩
      have h7 := mag_ge h3 (h4 (by omega))
      have h8 := mag_lt (cF σ w1) m
      have h9 := pow_mono (show m ≤ k by omega)
      unfold cmp32 at hQ
      rw [if_neg (by omega), if_neg (by omega)] at hQ
      exact hQ
    · obtain ⟨k, rfl⟩ : ∃ k, m = k + 1 := ⟨m - 1, by omega⟩
      have h7 := mag_ge g3 (g4 (by omega))
      have h8 := mag_lt (cF σ w0) n
      have h9 := pow_mono (show n ≤ k by omega)
      unfold cmp32 at hQ
      rw [if_pos (by omega)] at hQ
      exact hQ
theorem cmp32_0 {a b : Nat} : cmp32 a b = 0 ↔ a = b := by
  unfold cmp32
  by_cases h : a < b
  · rw [if_pos h]
    constructor
    · intro e; exact absurd e (by decide)
    · intro e; omega
  · rw [if_neg h]
    by_cases h2 : a = b
    · rw [if_pos h2]; simp [h2]
    · rw [if_neg h2]; simp [h2]
theorem cmp32_lt {a b : Nat} : cmp32 a b < 0 ↔ a < b := by
  unfold cmp32
  by_cases h : a < b
  · rw [if_pos h]
    exact ⟨fun _ => h, fun _ => by decide⟩
  · rw [if_neg h]
    by_cases h2 : a = b
    · rw [if_pos h2]; simp [h]
    · rw [if_neg h2]; simp [h]
theorem sp_isLike {w0 w1 : Nat} {σ : CS} {x y : Int} {Q : Int32 → CS → Prop} (hx : RpW σ w0 x) (hy : RpW σ w1 y) (hQ : Q (if x = y then 1 else 0) σ) : wpX3_isLike w0 w1 σ Q := by
  have hsx : cG σ w0 = sg32 x := by obtain ⟨n, h1, h2, h3, h4, h5, h6⟩ := hx; exact h6
  have hsy : cG σ w1 = sg32 y := by obtain ⟨n, h1, h2, h3, h4, h5, h6⟩ := hy; exact h6
  show wpX3_isLike_0 w0 w1 Q σ
  unfold wpX3_isLike_0 wpX3_isLike_23
  rw [hsx, hsy]
  refine ⟨fun h => ?_, fun h => sp_compareAbs hx hy ⟨fun h1 => ?_, fun h1 => ?_⟩⟩
  · rw [if_neg (fun e => h (by rw [e]))] at hQ
    exact hQ
  · rw [if_neg (fun e => h1 (by rw [e]; exact cmp32_0.mpr rfl))] at hQ
    exact hQ
  · have h2 := cmp32_0.mp h1
    have h3 := sg32_iff h
    rw [if_pos (by omega)] at hQ
    exact hQ
