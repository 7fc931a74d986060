/-! PURE: the reference's numbers: zero, trim, copy, compareSizes -/
def lm (ρ : RS) (n k : Nat) : Int64 := rL ρ (440 * n + k)
theorem ix (n k : Nat) : (440 : Int32) * nI n + nI k = nI (440 * n + k) := by
  rw [show (440 : Int32) = nI 440 from rfl, show nI 440 * nI n = nI (440 * n) from (Int32.ofNat_mul 440 n).symm, nI_add]
theorem ix2 (n k j : Nat) : (440 : Int32) * nI n + nI k + nI j = nI (440 * n + (k + j)) := by
  rw [ix, nI_add, Nat.add_assoc]
theorem lm_we (ρ : RS) (n k j : Nat) (v : Int64) (h : 440 * n + k < 2 ^ 31) : lm (wL ρ (nI (440 * n + k)) v) n j = if j = k then v else lm ρ n j := by
  show vp_updL ρ.1 (nI (440 * n + k)).toNatClampNeg v (440 * n + j) = _
  rw [nI_clamp h]
  unfold vp_updL
  by_cases e : j = k
  · rw [if_pos (by omega), if_pos e]
  · rw [if_neg (by omega), if_neg e]
    rfl
theorem lm_wn {ρ : RS} {n m k j : Nat} {v : Int64} (hn : n < 227) (hk : k < 440) (hj : j < 440) (h : m ≠ n) : lm (wL ρ (nI (440 * n + k)) v) m j = lm ρ m j := by
  show vp_updL ρ.1 (nI (440 * n + k)).toNatClampNeg v (440 * m + j) = _
  rw [nI_clamp (by omega)]
  unfold vp_updL
  rw [if_neg (by omega)]
  rfl
theorem rS_wS {ρ : RS} {n m : Nat} {v : Int32} (hn : n < 227) : rS (wS ρ (nI n) v) m = if m = n then v else rS ρ m := by
  show upd ρ.2.1 (nI n).toNatClampNeg v m = _
  rw [nI_clamp (by omega)]
  by_cases e : m = n
  · rw [if_pos e, e, upd_e]
  · rw [if_neg e, upd_n e]
    rfl
theorem rG_wG {ρ : RS} {n m : Nat} {v : Int32} (hn : n < 227) : rG (wG ρ (nI n) v) m = if m = n then v else rG ρ m := by
  show upd ρ.2.2.1 (nI n).toNatClampNeg v m = _
  rw [nI_clamp (by omega)]
  by_cases e : m = n
  · rw [if_pos e, e, upd_e]
  · rw [if_neg e, upd_n e]
    rfl
theorem lm_wS (ρ : RS) (i v : Int32) : lm (wS ρ i v) = lm ρ := rfl
theorem lm_wG (ρ : RS) (i v : Int32) : lm (wG ρ i v) = lm ρ := rfl
theorem rS_wG (ρ : RS) (i v : Int32) : rS (wG ρ i v) = rS ρ := rfl
theorem rS_wL (ρ : RS) (i : Int32) (v : Int64) : rS (wL ρ i v) = rS ρ := rfl
theorem rG_wS (ρ : RS) (i v : Int32) : rG (wS ρ i v) = rG ρ := rfl
theorem rG_wL (ρ : RS) (i : Int32) (v : Int64) : rG (wL ρ i v) = rG ρ := rfl
def Cr (ρ ρ' : RS) (S : Nat → Prop) : Prop := (∀ n, ¬ S n → (∀ k, k < 440 → lm ρ' n k = lm ρ n k) ∧ rS ρ' n = rS ρ n ∧ rG ρ' n = rG ρ n) ∧ ρ'.2.2.2 = ρ.2.2.2
theorem Cr.refl (ρ : RS) (S : Nat → Prop) : Cr ρ ρ S := ⟨fun _ _ => ⟨fun _ _ => rfl, rfl, rfl⟩, rfl⟩
theorem Cr.trans {ρ ρ1 ρ2 : RS} {S : Nat → Prop} (h1 : Cr ρ ρ1 S) (h2 : Cr ρ1 ρ2 S) : Cr ρ ρ2 S := ⟨fun n hn => ⟨fun k hk => ((h2.1 n hn).1 k hk).trans ((h1.1 n hn).1 k hk), (h2.1 n hn).2.1.trans (h1.1 n hn).2.1, (h2.1 n hn).2.2.trans (h1.1 n hn).2.2⟩, h2.2.trans h1.2⟩
theorem Cr.mono {ρ ρ' : RS} {S T : Nat → Prop} (h : Cr ρ ρ' S) (hs : ∀ n, S n → T n) : Cr ρ ρ' T := ⟨fun n hn => h.1 n (fun z => hn (hs n z)), h.2⟩
theorem Cr.wS {ρ ρ' : RS} {n : Nat} {S : Nat → Prop} (h : Cr ρ ρ' S) (hn : n < 227) (hS : S n) (v : Int32) : Cr ρ (wS ρ' (nI n) v) S := h.trans ⟨fun m hm => ⟨fun _ _ => rfl, by rw [rS_wS hn, if_neg (fun e : m = n => hm (by rw [e]; exact hS))], rfl⟩, rfl⟩
theorem Cr.wG {ρ ρ' : RS} {n : Nat} {S : Nat → Prop} (h : Cr ρ ρ' S) (hn : n < 227) (hS : S n) (v : Int32) : Cr ρ (wG ρ' (nI n) v) S := h.trans ⟨fun m hm => ⟨fun _ _ => rfl, rfl, by rw [rG_wG hn, if_neg (fun e : m = n => hm (by rw [e]; exact hS))]⟩, rfl⟩
theorem Cr.wL {ρ ρ' : RS} {n k : Nat} {S : Nat → Prop} (h : Cr ρ ρ' S) (hn : n < 227) (hk : k < 440) (hS : S n) (v : Int64) : Cr ρ (wL ρ' (nI (440 * n + k)) v) S := h.trans ⟨fun m hm => ⟨fun j hj => lm_wn hn hk hj (fun e => hm (e ▸ hS)), rfl, rfl⟩, rfl⟩
/-- the value of s digits of 28 bits -/
def vq (D : Nat → Nat) : Nat → Nat
  | 0 => 0
  | s + 1 => vq D s + D s * 268435456 ^ s
theorem vq_s (D : Nat → Nat) (s : Nat) : vq D (s + 1) = vq D s + D s * 268435456 ^ s := rfl
theorem vq_lt {D : Nat → Nat} {s : Nat} (h : ∀ k, k < s → D k < 268435456) : vq D s < 268435456 ^ s := by
  induction s with
  | zero => exact Nat.one_pos
  | succ s ih =>
    have h1 := ih (fun k hk => h k (by omega))
    have h2 := h s (by omega)
    rw [vq_s, Nat.pow_succ]
    have h3 : (D s + 1) * 268435456 ^ s ≤ 268435456 * 268435456 ^ s := Nat.mul_le_mul_right _ h2
    rw [Nat.add_mul, Nat.one_mul] at h3
    rw [Nat.mul_comm (268435456 ^ s)]
    omega
theorem vq_congr {D E : Nat → Nat} {s : Nat} (h : ∀ k, k < s → D k = E k) : vq D s = vq E s := by
  induction s with
  | zero => rfl
  | succ s ih => rw [vq_s, vq_s, ih (fun k hk => h k (by omega)), h s (by omega)]
theorem vq_ge {D : Nat → Nat} {s : Nat} (h : D s ≠ 0) : 268435456 ^ s ≤ vq D (s + 1) := by
  rw [vq_s]
  have : 1 * 268435456 ^ s ≤ D s * 268435456 ^ s := Nat.mul_le_mul_right _ (by omega)
  omega
def Dg (ρ : RS) (n s : Nat) (D : Nat → Nat) : Prop := ∀ k, k < s → lm ρ n k = lN (D k) ∧ D k < 268435456
def RpR (ρ : RS) (n : Nat) (x : Int) : Prop := ∃ s D, s ≤ 430 ∧ rS ρ n = nI s ∧ Dg ρ n s D ∧ (s ≠ 0 → D (s - 1) ≠ 0) ∧ x.natAbs = vq D s ∧ rG ρ n = sg32 x
theorem Dg.cr {ρ ρ' : RS} {S : Nat → Prop} {n s : Nat} {D : Nat → Nat} (h : Dg ρ n s D) (hc : Cr ρ ρ' S) (hn : ¬ S n) (hs : s ≤ 440) : Dg ρ' n s D := fun k hk => by
  rw [(hc.1 n hn).1 k (by omega)]
  exact h k hk
theorem RpR.cr {ρ ρ' : RS} {S : Nat → Prop} {n : Nat} {x : Int} (h : RpR ρ n x) (hc : Cr ρ ρ' S) (hn : ¬ S n) : RpR ρ' n x := by
  obtain ⟨s, D, h1, h2, h3, h4, h5, h6⟩ := h
  obtain ⟨c1, c2, c3⟩ := hc.1 n hn
  exact ⟨s, D, h1, by rw [c2]; exact h2, h3.cr hc hn (by omega), h4, h5, by rw [c3]; exact h6⟩
theorem rq_size {D : Nat → Nat} {s k : Nat} (ht : s ≠ 0 → D (s - 1) ≠ 0) (h : vq D s < 268435456 ^ k) : s ≤ k := by
  rcases Nat.eq_zero_or_pos s with e | e
  · omega
  · obtain ⟨t, rfl⟩ : ∃ t, s = t + 1 := ⟨s - 1, by omega⟩
    have h1 := vq_ge (ht (by omega))
    have h2 := (Nat.pow_lt_pow_iff_right (show 1 < 268435456 by omega)).mp (Nat.lt_of_le_of_lt h1 h)
    omega
theorem vq_0 {D : Nat → Nat} {s : Nat} (ht : s ≠ 0 → D (s - 1) ≠ 0) : vq D s = 0 ↔ s = 0 := by
  constructor
  · intro h
    have := rq_size (k := 0) ht (by rw [h]; exact Nat.one_pos)
    omega
  · intro h
    rw [h]
    rfl
theorem RpR.bd {ρ : RS} {n : Nat} {x : Int} (h : RpR ρ n x) : x.natAbs < 268435456 ^ 430 := by
  obtain ⟨s, D, h1, h2, h3, h4, h5, h6⟩ := h
  rw [h5]
  exact Nat.lt_of_lt_of_le (vq_lt (fun k hk => (h3 k hk).2)) (Nat.pow_le_pow_right (by omega) h1)
theorem RpR.sg {ρ : RS} {n : Nat} {x : Int} (h : RpR ρ n x) : rG ρ n = sg32 x := by
  obtain ⟨s, D, h1, h2, h3, h4, h5, h6⟩ := h
  exact h6
theorem sp_rzero {n : Nat} {ρ : RS} {Q : RS → Prop} (hn : n < 227) (hQ : ∀ ρ', RpR ρ' n 0 → Cr ρ ρ' (fun z => z = n) → Q ρ') : wpX5_zero (nI n) ρ Q := by
  show wpX5_zero_0 (nI n) Q ρ
  unfold wpX5_zero_0
  refine ⟨pk_in n _ hn, pk_in n _ hn, hQ _ ⟨0, fun _ => 0, by omega, ?_, fun k hk => absurd hk (by omega), fun h => absurd rfl h, rfl, ?_⟩ (((Cr.refl ρ (fun z => z = n)).wS hn rfl _).wG hn rfl _)⟩
  · rw [rS_wG, rS_wS hn, if_pos rfl]
    rfl
  · rw [rG_wG hn, if_pos rfl]
    rfl
theorem lgN0 {d : Nat} (h : d < 268435456) : lg_cmp (lN d) 0 = 0 ↔ d = 0 := by
  rw [lg0]
  exact lN_inj0 (by omega)
theorem sp_rtrim {n s : Nat} {D : Nat → Nat} {x : Int} {ρ : RS} {Q : RS → Prop} (hn : n < 227) (hs : rS ρ n = nI s) (hle : s ≤ 440) (hb : x.natAbs < 268435456 ^ 430) (hD : Dg ρ n s D) (hx : x.natAbs = vq D s) (hg : x ≠ 0 → rG ρ n = sg32 x)
    (hQ : ∀ ρ', RpR ρ' n x → Cr ρ ρ' (fun z => z = n) → Q ρ') : wpX5_trim (nI n) ρ Q := by
  show ∃ m, lq1 (wbX5_trim_0 (nI n) Q) m ρ
  refine lq1_i (I := fun τ => ∃ t, t ≤ 440 ∧ rS τ n = nI t ∧ Dg τ n t D ∧ x.natAbs = vq D t ∧ rG τ n = rG ρ n ∧ Cr ρ τ (fun z => z = n)) (μ := fun τ => (rS τ n).toNatClampNeg) ?_ _ ⟨s, hle, hs, hD, hx, rfl, Cr.refl _ _⟩
  rintro N τ ⟨t, ht, hst, hDt, hxt, hgt, hC⟩ hN
  unfold wbX5_trim_0 wpX5_trim_46
  rw [nI_clamp (by omega), hst]
  have hnz : t ≠ 0 → D (t - 1) ≠ 0 → Q (wG τ (nI n) (rG τ n)) := by
    intro h1 h2
    have hx0 : x ≠ 0 := by
      intro e
      rw [e] at hxt
      have := (vq_0 (D := D) (s := t) (fun _ => h2)).mp hxt.symm
      omega
    refine hQ _ ⟨t, D, rq_size (fun _ => h2) (by rw [← hxt]; exact hb), by rw [rS_wG]; exact hst, hDt, fun _ => h2, hxt, ?_⟩ (hC.wG hn rfl _)
    rw [rG_wG hn, if_pos rfl, hgt]
    exact hg hx0
  have h46 : (t ≠ 0 → D (t - 1) ≠ 0) → vp_in (nI n) 227 ∧ ((¬ nI t = 0 → vp_in (nI n) 227 ∧ (vp_in (nI n) 227 ∧ Q (wG τ (nI n) (rG τ n)))) ∧ (nI t = 0 → vp_in (nI n) 227 ∧ Q (wG τ (nI n) (0 : Int32)))) := by
    intro h1
    refine ⟨pk_in n _ hn, ?_⟩
    rw [show (0 : Int32) = nI 0 from rfl]
    have h2 := pk_eq (A := vp_in (nI n) 227 ∧ Q (wG τ (nI n) (0 : Int32))) (B := vp_in (nI n) 227 ∧ (vp_in (nI n) 227 ∧ Q (wG τ (nI n) (rG τ n)))) t 0 (fun e => ⟨pk_in n _ hn, hQ _ ⟨0, D, by omega, by rw [rS_wG, hst, e], fun k hk => absurd hk (by omega), fun h => absurd rfl h, by rw [hxt, e], ?_⟩ (hC.wG hn rfl _)⟩) (fun e => ⟨pk_in n _ hn, pk_in n _ hn, hnz e (h1 e)⟩) rfl rfl (by omega) (by omega)
    · exact ⟨h2.2, h2.1⟩
    · rw [rG_wG hn, if_pos rfl]
      have : x = 0 := by rw [e] at hxt; have : vq D 0 = 0 := rfl; omega
      rw [this]
      rfl
  refine ⟨pk_in n _ hn, pk_le t 0 (fun h1 => h46 (fun h => absurd h (by omega))) (fun h1 => ⟨pk_in n _ hn, ?_⟩) rfl rfl (by omega) (by omega)⟩
  have e1 : (440 : Int32) * nI n + nI t - 1 = nI (440 * n + (t - 1)) := by
    rw [ix, show (1 : Int32) = nI 1 from rfl, pk_sub (by omega), show 440 * n + t - 1 = 440 * n + (t - 1) by omega]
  rw [e1, nI_clamp (by omega)]
  obtain ⟨d1, d2⟩ := hDt (t - 1) (by omega)
  have d3 : rL τ (440 * n + (t - 1)) = lN (D (t - 1)) := d1
  rw [d3, lgN0 d2]
  refine ⟨pk_in (440 * n + (t - 1)) _ (by omega), fun h2 => h46 (fun _ => h2), fun h2 => ⟨pk_in n _ hn, pk_in n _ hn, ?_⟩⟩
  have e2 : nI t - 1 = nI (t - 1) := by rw [show (1 : Int32) = nI 1 from rfl, pk_sub (by omega)]
  rw [e2]
  refine hN _ ⟨t - 1, by omega, by rw [rS_wS hn, if_pos rfl], fun k hk => hDt k (by omega), ?_, hgt, hC.wS hn rfl _⟩ ?_
  · rw [hxt]
    obtain ⟨u, rfl⟩ : ∃ u, t = u + 1 := ⟨t - 1, by omega⟩
    rw [vq_s, Nat.add_sub_cancel]
    rw [Nat.add_sub_cancel] at h2
    rw [h2, Nat.zero_mul, Nat.add_zero]
  · show (rS (wS τ (nI n) (nI (t - 1))) n).toNatClampNeg < (rS τ n).toNatClampNeg
    rw [rS_wS hn, if_pos rfl, hst, nI_clamp (by omega), nI_clamp (by omega)]
    omega
/-- limbs below k of number t have been written; all else is as it was -/
def Fr (ρ τ : RS) (t k : Nat) : Prop := (∀ m j, j < 440 → (m ≠ t ∨ k ≤ j) → lm τ m j = lm ρ m j) ∧ τ.2 = ρ.2
theorem Fr.refl (ρ : RS) (t : Nat) : Fr ρ ρ t 0 := ⟨fun _ _ _ _ => rfl, rfl⟩
theorem Fr.S {ρ τ : RS} {t k : Nat} (h : Fr ρ τ t k) : rS τ = rS ρ := by unfold rS; rw [h.2]
theorem Fr.G {ρ τ : RS} {t k : Nat} (h : Fr ρ τ t k) : rG τ = rG ρ := by unfold rG; rw [h.2]
theorem Fr.cr {ρ τ : RS} {t k : Nat} (h : Fr ρ τ t k) : Cr ρ τ (fun z => z = t) := ⟨fun n hn => ⟨fun j hj => h.1 n j hj (Or.inl hn), by rw [h.S], by rw [h.G]⟩, by rw [h.2]⟩
theorem Fr.step {ρ τ : RS} {t k : Nat} (h : Fr ρ τ t k) (ht : t < 227) (hk : k < 440) (v : Int64) : Fr ρ (wL τ (nI (440 * t + k)) v) t (k + 1) := by
  refine ⟨fun m j hj hm => ?_, h.2⟩
  by_cases e : m = t
  · subst e
    rw [lm_we _ _ _ _ _ (by omega), if_neg (by omega)]
    exact h.1 m j hj (Or.inr (by omega))
  · rw [lm_wn ht hk hj e]
    exact h.1 m j hj (Or.inl e)
theorem lp_upR {B : (Int32 → RS → Prop) → Int32 → RS → Prop} (I : Nat → RS → Prop) (n : Nat) (hn : n < 1000000) (hs : ∀ N k τ, k ≤ n → I k τ → (∀ τ', k < n → I (k + 1) τ' → N (nI k + 1) τ') → B N (nI k) τ) (σ : RS) (h : I 0 σ) : ∃ m, lq2 B m (0 : Int32) σ := by
  refine lq2_i (I := fun a τ => ∃ k, k ≤ n ∧ a = nI k ∧ I k τ) (μ := fun a _ => n - a.toNatClampNeg) ?_ _ _ ⟨0, Nat.zero_le _, rfl, h⟩
  rintro N a τ ⟨k, hk, rfl, hI⟩ hN
  refine hs N k τ hk hI (fun τ' h1 h2 => hN _ _ ⟨k + 1, h1, nI_1 k, h2⟩ ?_)
  show n - (nI k + 1).toNatClampNeg < n - (nI k).toNatClampNeg
  rw [nI_1, nI_clamp (by omega), nI_clamp (by omega)]
  omega
theorem lp_dnR {B : (Int32 → RS → Prop) → Int32 → RS → Prop} (I : Nat → RS → Prop) (n : Nat) (hn : n < 1000000) (hs : ∀ N k τ, k ≤ n → I k τ → (∀ k' τ', k = k' + 1 → I k' τ' → N (nI k' + (-1)) τ') → B N (nI k - 1) τ) (σ : RS) (h : I n σ) {a : Int32} (ha : a = nI n - 1) : ∃ m, lq2 B m a σ := by
  refine lq2_i (I := fun a τ => ∃ k, k ≤ n ∧ a = nI k - 1 ∧ I k τ) (μ := fun a _ => (a + 1).toNatClampNeg) ?_ _ _ ⟨n, Nat.le_refl _, ha, h⟩
  rintro N a τ ⟨k, hk, rfl, hI⟩ hN
  refine hs N k τ hk hI (fun k' τ' h1 h2 => hN _ _ ⟨k', by omega, (Int32.sub_eq_add_neg _ _).symm, h2⟩ ?_)
  show (nI k' + (-1) + 1).toNatClampNeg < (nI k - 1 + 1).toNatClampNeg
  subst h1
  rw [m1p1, deg_s (by omega), Nat.add_sub_cancel, nI_1, nI_clamp (by omega), nI_clamp (by omega)]
  omega
theorem RpR.raw {ρ : RS} {n : Nat} {x : Int} (h : RpR ρ n x) : ∃ s D, s ≤ 430 ∧ rS ρ n = nI s ∧ Dg ρ n s D ∧ (s ≠ 0 → D (s - 1) ≠ 0) ∧ x.natAbs = vq D s := by
  obtain ⟨s, D, h1, h2, h3, h4, h5, h6⟩ := h
  exact ⟨s, D, h1, h2, h3, h4, h5⟩
theorem sp_rcopy {a t : Nat} {x : Int} {ρ : RS} {Q : RS → Prop} (ha : a < 227) (ht : t < 227) (h : RpR ρ a x)
    (hQ : ∀ ρ', RpR ρ' t x → Cr ρ ρ' (fun z => z = t) → Q ρ') : wpX5_copy (nI a) (nI t) ρ Q := by
  obtain ⟨s, D, hs, hS, hD, hT, hx⟩ := h.raw
  have hG := h.sg
  show wpX5_copy_0 (nI a) (nI t) Q ρ
  unfold wpX5_copy_0
  refine lp_upR (I := fun k τ => (∀ j, j < k → lm τ t j = lm ρ a j) ∧ Fr ρ τ t k) s (by omega) ?_ ρ ⟨fun j hj => absurd hj (by omega), Fr.refl _ _⟩
  rintro N k τ hk ⟨hL, hF⟩ hN
  unfold wbX5_copy_2
  rw [nI_clamp (by omega), hF.S, hS]
  refine ⟨pk_in a _ ha, pk_le s k (fun h1 => ⟨pk_in a _ ha, pk_in t _ ht, pk_in a _ ha, pk_in t _ ht, ?_⟩) (fun h1 => ?_) rfl rfl (by omega) (by omega)⟩
  · have : k = s := by omega
    subst this
    refine hQ _ ⟨k, D, hs, by rw [rS_wG, rS_wS ht, if_pos rfl], fun j hj => ?_, hT, hx, ?_⟩ ((hF.cr.wS ht rfl _).wG ht rfl _)
    · rw [lm_wG, lm_wS, hL j hj]
      exact hD j hj
    · rw [rG_wG ht, if_pos rfl, rG_wS, hF.G]
      exact hG
  · rw [ix, ix, nI_clamp (by omega)]
    refine ⟨pk_in (440 * a + k) _ (by omega), pk_in (440 * t + k) _ (by omega), fun a1 ha1 => ?_⟩
    subst ha1
    have e1 : rL τ (440 * a + k) = lm ρ a k := hF.1 a k (by omega) (by omega)
    refine hN _ h1 ⟨fun j hj => ?_, hF.step ht (by omega) _⟩
    rw [lm_we _ _ _ _ _ (by omega)]
    by_cases e : j = k
    · rw [if_pos e, e, e1]
    · rw [if_neg e]
      exact hL j (by omega)
theorem vq_ext {f g : Nat → Nat} {m n : Nat} (hm : m ≤ n) (h : ∀ j, m ≤ j → j < n → f j = g j) : vq f n + vq g m = vq g n + vq f m := by
  induction n with
  | zero => rw [Nat.le_zero.mp hm, Nat.add_comm]
  | succ n ih =>
    rcases Nat.eq_or_lt_of_le hm with e | e
    · rw [e]; omega
    · have := ih (by omega) (fun j h1 h2 => h j h1 (by omega))
      rw [vq_s, vq_s, h n (by omega) (by omega)]
      omega
theorem vq_less {f g : Nat → Nat} {k n : Nat} (hk : k < n) (hf : ∀ j, j < n → f j < 268435456) (h : ∀ j, k + 1 ≤ j → j < n → f j = g j) (hd : f k < g k) : vq f n < vq g n := by
  have h1 := vq_ext (f := f) (g := g) (m := k + 1) (n := n) hk h
  rw [vq_s, vq_s] at h1
  have h2 := vq_lt (D := f) (s := k) (fun j hj => hf j (by omega))
  have h3 : (f k + 1) * 268435456 ^ k ≤ g k * 268435456 ^ k := Nat.mul_le_mul_right _ hd
  rw [Nat.add_mul, Nat.one_mul] at h3
  omega
theorem lN_inj {a b : Nat} (ha : a < 268435456) (hb : b < 268435456) : lN a = lN b ↔ a = b := lN_eq (by omega) (by omega)
theorem lgc0 {x y : Int64} : lg_cmp x y = 0 ↔ x = y := by
  unfold lg_cmp
  by_cases h : x > y
  · rw [if_pos h]
    constructor
    · intro e; exact absurd e (by decide)
    · intro e; subst e; exact absurd h (Int64.lt_irrefl)
  · rw [if_neg h]
    by_cases h2 : x = y
    · rw [if_pos h2]; simp [h2]
    · rw [if_neg h2]; simp [h2]
theorem sp_compareSizes {a b : Nat} {x y : Int} {ρ : RS} {Q : Int32 → RS → Prop} (ha : a < 227) (hb : b < 227) (hx : RpR ρ a x) (hy : RpR ρ b y) (hQ : Q (cmp32 x.natAbs y.natAbs) ρ) : wpX5_compareSizes (nI a) (nI b) ρ Q := by
  obtain ⟨s, D, hs, hS, hD, hT, hxv⟩ := hx.raw
  obtain ⟨s2, E, hs2, hS2, hE, hT2, hyv⟩ := hy.raw
  show wpX5_compareSizes_0 (nI a) (nI b) Q ρ
  unfold wpX5_compareSizes_0
  rw [nI_clamp (by omega), nI_clamp (by omega), hS, hS2]
  have hlt : ∀ {p q : Nat} {A B : Nat → Nat}, (∀ k, k < p → A k < 268435456) → (q ≠ 0 → B (q - 1) ≠ 0) → p < q → vq A p < vq B q := by
    intro p q A B h1 h2 h3
    rcases Nat.lt_or_ge (vq A p) (vq B q) with e | e
    · exact e
    · have := rq_size (k := p) h2 (Nat.lt_of_le_of_lt e (vq_lt h1))
      omega
  refine ⟨pk_in a _ ha, pk_in b _ hb, pk_eq s s2 (fun e => ⟨pk_in a _ ha, fun a2 ha2 => ?_⟩) (fun e => ⟨pk_in a _ ha, pk_in b _ hb, pk_le s2 s (fun h1 => ?_) (fun h1 => ?_) rfl rfl (by omega) (by omega)⟩) rfl rfl (by omega) (by omega)⟩
  · subst e
    refine lp_dnR (I := fun k τ => τ = ρ ∧ ∀ j, k ≤ j → j < s → D j = E j) s (by omega) ?_ ρ ⟨rfl, fun j h1 h2 => absurd h1 (by omega)⟩ ha2
    rintro N k τ hk ⟨rfl, he⟩ hN
    unfold wbX5_compareSizes_45
    rw [dg_lt0 (by omega)]
    refine ⟨fun hk0 => ?_, fun hk0 => ?_⟩
    · have : vq D s = vq E s := vq_congr (fun j hj => he j (by omega) hj)
      rw [hxv, hyv, this] at hQ
      have h0 : cmp32 (vq E s) (vq E s) = 0 := cmp32_0.mpr rfl
      rw [h0] at hQ
      exact hQ
    · obtain ⟨u, rfl⟩ : ∃ u, k = u + 1 := ⟨k - 1, by omega⟩
      have e1 : nI (u + 1) - 1 = nI u := by rw [deg_s (by omega), Nat.add_sub_cancel]
      obtain ⟨d1, d2⟩ := hD u (by omega)
      obtain ⟨f1, f2⟩ := hE u (by omega)
      have d3 : rL τ (440 * a + u) = lN (D u) := d1
      have f3 : rL τ (440 * b + u) = lN (E u) := f1
      rw [e1, ix, ix, nI_clamp (by omega), nI_clamp (by omega), d3, f3, lgc0, lN_inj d2 f2, lg_cmp_ge, lN_le (by omega) (by omega)]
      refine ⟨pk_in (440 * a + u) _ (by omega), pk_in (440 * b + u) _ (by omega), fun h1 a1 ha1 => ?_, fun h1 => ⟨pk_in (440 * a + u) _ (by omega), pk_in (440 * b + u) _ (by omega), fun h2 => ?_, fun h2 => ?_⟩⟩
      · subst ha1
        refine hN u τ rfl ⟨rfl, fun j hj1 hj2 => ?_⟩
        rcases Nat.eq_or_lt_of_le hj1 with e | e
        · rw [← e]; exact h1
        · exact he j (by omega) hj2
      · have h3 := vq_less (f := E) (g := D) (k := u) (n := s) (by omega) (fun j hj => (hE j hj).2) (fun j h1 h2 => (he j h1 h2).symm) (by omega)
        rw [hxv, hyv] at hQ
        unfold cmp32 at hQ
        rw [if_neg (by omega), if_neg (by omega)] at hQ
        exact hQ
      · have h3 := vq_less (f := D) (g := E) (k := u) (n := s) (by omega) (fun j hj => (hD j hj).2) (fun j h1 h2 => he j h1 h2) (by omega)
        rw [hxv, hyv] at hQ
        unfold cmp32 at hQ
        rw [if_pos (by omega)] at hQ
        exact hQ
  · have h3 := hlt (A := E) (B := D) (fun k hk => (hE k hk).2) hT (show s2 < s by omega)
    rw [hxv, hyv] at hQ
    unfold cmp32 at hQ
    rw [if_neg (by omega), if_neg (by omega)] at hQ
    exact hQ
  · have h3 := hlt (A := D) (B := E) (fun k hk => (hD k hk).2) hT2 h1
    rw [hxv, hyv] at hQ
    unfold cmp32 at hQ
    rw [if_pos (by omega)] at hQ
    exact hQ
