/-! PURE: begin, raise, follow -/
def pS (w : Nat) : Prop := w = 326 ∨ w = 327
theorem le1 : ∀ k, k < 20 → ((1 : Int32) ≤ nI k ↔ 1 ≤ k) := by decide +kernel
theorem sp_raise {w1 d : Nat} {p h : Nat} {σ : CS} {Q : CS → Prop} (hw : w1 = 324 ∨ w1 = 325) (hd : d < 20) (hp : RpW σ 326 p) (hh : RpW σ w1 h) (hb : ∀ i, i ≤ d → p * h ^ i < 2147483648 ^ 299) (hQ : ∀ σ', RpW σ' 326 ((p * h ^ d : Nat) : Int) → Ch σ σ' pS → Q σ') : wpX1_raise w1 (nI d) σ Q := by
  show wpX1_raise_0 w1 (nI d) Q σ
  unfold wpX1_raise_0
  have c326 : capW 326 = 300 := rfl
  refine lp_up (I := fun k τ => RpW τ 326 ((p * h ^ k : Nat) : Int) ∧ Ch σ τ pS) d (by omega) ?_ σ ⟨by rw [Nat.pow_zero, Nat.mul_one]; exact hp, Ch.refl _ _⟩
  rintro N k τ hk ⟨hP, hC⟩ hN
  unfold wbX1_raise_2
  refine pk_le d k (fun h1 => ?_) (fun h1 => ?_) rfl rfl (by omega) (by omega)
  · have : k = d := by omega
    subst this
    exact hQ τ hP hC
  · have hht : RpW τ w1 h := hh.ch hC (by unfold pS; omega)
    have e : ((p * h ^ k : Nat) : Int) * (h : Int) = ((p * h ^ (k + 1) : Nat) : Int) := by
      rw [← Int.natCast_mul, Nat.pow_succ, Nat.mul_assoc]
    have b1 := hb (k + 1) (by omega)
    refine sp_prod (by omega) (by omega) hP hht rfl (by rw [e]; exact b1) (fun τ2 hr2 hc2 => sp_load hr2 (by rw [e, c326]; exact lt_cap b1 (by omega)) (fun τ3 hr3 hc3 a5 ha5 => ?_))
    subst ha5
    rw [e] at hr3
    exact hN τ3 h1 ⟨hr3, (hC.trans (hc2.mono (fun w hw => Or.inr hw))).trans (hc3.mono (fun w hw => Or.inl hw))⟩
def fS (w : Nat) : Prop := 324 ≤ w ∧ w < 328
theorem sp_follow {p1 d h h2 : Nat} {y : Nat → Int} {σ : CS} {Q : CS → Prop} (hp : p1 < 20) (hd : d < 20) (h1 : Pl σ p1 y) (hy0 : dl y ≠ 0) (hh : RpW σ 325 h) (hlb : (lc y).natAbs < 2147483648 ^ 100) (hpb : (lc y).natAbs ^ d < 2147483648 ^ 299) (hh0 : 0 < h) (h2b : h2 < 2147483648 ^ 100) (he : 1 ≤ d → h2 * h ^ (d - 1) = (lc y).natAbs ^ d) (he0 : d = 0 → h2 = h)
    (hQ : ∀ σ', RpW σ' 324 ((lc y).natAbs : Int) → RpW σ' 325 h2 → Ch σ σ' fS → Q σ') : wpX1_follow p1 (nI d) σ Q := by
  have hdy := dl_le y
  have hly := h1.len
  have t1 := tlen_le p1
  have c324 : capW 324 = 100 := rfl
  have c325 : capW 325 = 100 := rfl
  have c326 : capW 326 = 300 := rfl
  have c327 : capW 327 = 300 := rfl
  show wpX1_follow_0 p1 (nI d) Q σ
  unfold wpX1_follow_0
  rw [h1.2.2, deg_nn hdy]
  refine ⟨fun _ => ?_, fun h => absurd hy0 h⟩
  rw [deg_s hy0, nI_clamp (by omega)]
  have hrl := h1.1 (dl y - 1) (by omega)
  rw [← lc_eq hy0] at hrl
  refine ⟨pk_in (dl y - 1) _ (by omega), sp_load hrl (by rw [c324]; exact hlb) (fun τ1 hr1 hc1 => ?_)⟩
  have hrest : ∀ τ, RpW τ 324 ((lc y).natAbs : Int) → RpW τ 325 h → Ch σ τ fS → wpX1_follow_41 p1 (nI d) Q τ := by
    intro τ hr hhr hC
    unfold wpX1_follow_41
    rw [le1 d hd]
    refine ⟨fun hd1 => sp_setOne (fun τ2 hr2 hc2 => ?_), fun hd1 => ?_⟩
    · have hL : 1 ≤ (lc y).natAbs := by have := lc_ne hy0; omega
      refine sp_raise (p := 1) (Or.inl rfl) hd hr2 (hr.ch hc2 (by omega)) (fun i hi => ?_) (fun τ3 hr3 hc3 => ?_)
      · rw [Nat.one_mul]
        exact Nat.lt_of_le_of_lt (Nat.pow_le_pow_right hL hi) hpb
      · rw [Nat.one_mul] at hr3
        have hC3 : Ch σ τ3 fS := (hC.trans (hc2.mono (fun w hw => ⟨by omega, by omega⟩))).trans (hc3.mono (fun w hw => by unfold pS at hw; exact ⟨by omega, by omega⟩))
        have hhr3 : RpW τ3 325 h := (hhr.ch hc2 (by omega)).ch hc3 (by unfold pS; omega)
        have hr3' : RpW τ3 324 ((lc y).natAbs : Int) := (hr.ch hc2 (by omega)).ch hc3 (by unfold pS; omega)
        refine lq2_i (I := fun a τ => ∃ k, 1 ≤ k ∧ k ≤ d ∧ a = nI k ∧ RpW τ 326 ((h2 * h ^ (d - k) : Nat) : Int) ∧ RpW τ 325 h ∧ RpW τ 324 ((lc y).natAbs : Int) ∧ Ch σ τ fS) (μ := fun a _ => d - a.toNatClampNeg) ?_ _ _ ⟨1, Nat.le_refl _, hd1, rfl, by rw [he hd1]; exact hr3, hhr3, hr3', hC3⟩
        rintro N a τ4 ⟨k, hk1, hk, rfl, hp4, hh4, hl4, hC4⟩ hN
        unfold wbX1_follow_65
        refine pk_le d k (fun h5 => ?_) (fun h5 => ?_) rfl rfl (by omega) (by omega)
        · have e : k = d := by omega
          subst e
          rw [Nat.sub_self, Nat.pow_zero, Nat.mul_one] at hp4
          exact sp_load hp4 (by rw [c325]; exact h2b) (fun τ5 hr5 hc5 => hQ τ5 (hl4.ch hc5 (by omega)) hr5 (hC4.trans (hc5.mono (fun w hw => ⟨by omega, by omega⟩))))
        · have e : ((h2 * h ^ (d - k) : Nat) : Int).tdiv (h : Int) = ((h2 * h ^ (d - (k + 1)) : Nat) : Int) := by
            rw [← Int.ofNat_tdiv, show d - k = d - (k + 1) + 1 by omega, Nat.pow_succ, ← Nat.mul_assoc, Nat.mul_div_cancel _ hh0]
          refine sp_divide (by omega) (by omega) (by omega) hp4 hh4 (by rw [c327]; exact hp4.bd3) (fun τ5 hr5 hr6 hc5 => sp_load hr5 (by rw [c326]; exact hr5.bd3) (fun τ6 hr7 hc6 a7 ha7 => ?_))
          rw [nI_1] at ha7
          subst ha7
          rw [e] at hr7
          refine hN _ _ ⟨k + 1, by omega, by omega, rfl, hr7, (hh4.ch hc5 (by omega)).ch hc6 (by omega), (hl4.ch hc5 (by omega)).ch hc6 (by omega), (hC4.trans (hc5.mono (fun w hw => ⟨by omega, by omega⟩))).trans (hc6.mono (fun w hw => ⟨by omega, by omega⟩))⟩ ?_
          show d - (nI (k + 1)).toNatClampNeg < d - (nI k).toNatClampNeg
          rw [nI_clamp (by omega), nI_clamp (by omega)]
          omega
    · rw [← he0 (by omega)] at hhr
      exact hQ τ hr hhr hC
  have hC1 : Ch σ τ1 fS := hc1.mono (fun w hw => ⟨by omega, by omega⟩)
  have hh1 : RpW τ1 325 h := hh.ch hc1 (by omega)
  rw [hr1.sg]
  by_cases hn : lc y < 0
  · rw [sg32_lt hn]
    refine ⟨fun h => absurd h (by decide), fun _ => sp_negate hr1 (fun τ2 hr2 hc2 => hrest τ2 ?_ (hh1.ch hc2 (by omega)) (hC1.trans (hc2.mono (fun w hw => ⟨by omega, by omega⟩))))⟩
    rw [show ((lc y).natAbs : Int) = -(lc y) by omega]
    exact hr2
  · have := lc_ne hy0
    rw [sg32_pos (by omega)]
    refine ⟨fun _ => hrest τ1 ?_ hh1 hC1, fun h => absurd (by decide) h⟩
    rw [show ((lc y).natAbs : Int) = lc y by omega]
    exact hr1
theorem v0 : vp_in (0 : Int32) 10 := pk_in 0 10 (by omega) rfl
theorem v1 : vp_in (1 : Int32) 10 := pk_in 1 10 (by omega) rfl
theorem sp_begin {p1 : Nat} {c : Nat → Int} {σ : CS} {Q : CS → Prop} (hp : p1 < 10) (h1 : Pl σ p1 c) (hb : ∀ i, (c i).natAbs < 2147483648 ^ 98)
    (hQ : ∀ σ', Pl σ' 10 c → Pl σ' 11 (dv c) → Cg σ σ' (fun w => inP 10 w ∨ inP 11 w) (fun p => p = 10 ∨ p = 11) → Q σ') : wpX1_begin p1 σ Q := by
  show wpX1_begin_0 p1 Q σ
  unfold wpX1_begin_0
  have e0 : (0 : Int32).toNatClampNeg = 0 := rfl
  have e1 : (1 : Int32).toNatClampNeg = 1 := rfl
  have c10 : capP 10 = 100 := rfl
  have c11 : capP 11 = 100 := rfl
  rw [e0, e1]
  refine ⟨v0, sp_pload (by omega) (by omega) h1 (fun i _ => by rw [c10]; exact lt_cap (hb i) (by omega)) (fun i hi => h1.top hi) (fun τ1 hP1 hC1 => ⟨v1, ?_⟩)⟩
  have hPx : Pl τ1 p1 c := h1.cg hC1 (fun w hw => inP_ne (by omega) hw) (by omega)
  refine sp_slope (by omega) (by omega) hPx (fun i hi => ?_) (fun i hi => h1.top (Nat.le_succ_of_le hi)) (fun τ2 hP2 hC2 => hQ τ2 (hP1.cg hC2 (fun w hw => inP_ne (by omega) hw) (by omega)) hP2 ((hC1.mono (fun _ z => Or.inl z) (fun _ z => Or.inl z)).trans (hC2.mono (fun _ z => Or.inr z) (fun _ z => Or.inr z))))
  rw [c11]
  unfold dv
  have ti : tlen (10 + 1) = 9 := rfl
  exact lt_cap (bd_t (hb (i + 1)) (by omega)) (by omega)
