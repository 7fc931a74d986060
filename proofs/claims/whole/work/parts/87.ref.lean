/-! PURE: the reference's divide, common -/
def Qst (x3 : Int32) (a b d m : Nat) (τ : RS) (v : Nat) : Prop := x3 = -1 ∨ ∃ q F, x3 = nI q ∧ q < 227 ∧ q ≠ a ∧ q ≠ b ∧ q ≠ 224 ∧ rS τ q = nI (d / 28 + 1) ∧ rG τ q = 1 ∧ Dg τ q (d / 28 + 1) F ∧ vq F (d / 28 + 1) = v ∧ (∀ i, i < m / 28 → F i = 0) ∧ F (m / 28) % 2 ^ (m % 28) = 0
def dS (x3 : Int32) (a : Nat) (z : Nat) : Prop := z = a ∨ z = 224 ∨ (z < 227 ∧ x3 = nI z)
theorem nI_m1 {q : Nat} (hq : q < 227) : nI q ≠ -1 := by
  intro h
  have := congrArg Int32.toInt h
  rw [nI_toInt (by omega)] at this
  have h2 : (-1 : Int32).toInt = -1 := by decide
  omega
theorem Qst.cr {x3 : Int32} {a b d m v : Nat} {τ τ' : RS} {S : Nat → Prop} (h : Qst x3 a b d m τ v) (hd : d ≤ 12040) (hc : Cr τ τ' S) (hS : ∀ z, S z → z = a ∨ z = 224) : Qst x3 a b d m τ' v := by
  rcases h with h | ⟨q, F, h1, h2, h3, h4, h5, h6, h7, h8, h9⟩
  · exact Or.inl h
  · have hn : ¬ S q := fun z => by have := hS q z; omega
    exact Or.inr ⟨q, F, h1, h2, h3, h4, h5, by rw [(hc.1 q hn).2.1]; exact h6, by rw [(hc.1 q hn).2.2]; exact h7, h8.cr hc hn (by omega), h9⟩
theorem or_bit {f j : Nat} (h : f % 2 ^ (j + 1) = 0) : f ||| 2 ^ j = f + 2 ^ j := by
  obtain ⟨a, rfl⟩ := Nat.dvd_of_mod_eq_zero h
  exact (Nat.two_pow_add_eq_or_of_lt (Nat.pow_lt_pow_right (by omega) (by omega)) a).symm
theorem dvd_bit {f j : Nat} (h : f % 2 ^ (j + 1) = 0) : f % 2 ^ j = 0 := by
  obtain ⟨a, rfl⟩ := Nat.dvd_of_mod_eq_zero h
  rw [Nat.pow_succ, Nat.mul_assoc, Nat.mul_mod_right]
/-- bit m of the quotient stays 0 -/
theorem Qst.skip {x3 : Int32} {a b d m v : Nat} {τ : RS} (h : Qst x3 a b d (m + 1) τ v) : Qst x3 a b d m τ v := by
  rcases h with h | ⟨q, F, h1, h2, h3, h4, h5, h6, h7, h8, h9, h10, h11⟩
  · exact Or.inl h
  · refine Or.inr ⟨q, F, h1, h2, h3, h4, h5, h6, h7, h8, h9, fun i hi => h10 i (by omega), ?_⟩
    by_cases e : (m + 1) % 28 = 0
    · rw [h10 (m / 28) (by omega), Nat.zero_mod]
    · rw [show (m + 1) / 28 = m / 28 by omega, show (m + 1) % 28 = m % 28 + 1 by omega] at h11
      exact dvd_bit h11
/-- bit m of the quotient becomes 1 -/
theorem Qst.put {q a b d m v : Nat} {τ : RS} (h : Qst (nI q) a b d (m + 1) τ v) (hq : q < 227) (hm : m ≤ d) (hd : d ≤ 12040) : ∃ f, f < 268435456 ∧ lm τ q (m / 28) = lN f ∧ f ||| 2 ^ (m % 28) < 268435456 ∧ Qst (nI q) a b d m (wL τ (nI (440 * q + m / 28)) (lN (f ||| 2 ^ (m % 28)))) (v + 2 ^ m) := by
  rcases h with h | ⟨q', F, h1, h2, h3, h4, h5, h6, h7, h8, h9, h10, h11⟩
  · exact absurd h (nI_m1 hq)
  · have : q = q' := (nI_eq (by omega) (by omega)).mp h1
    subst this
    obtain ⟨g1, g2⟩ := h8 (m / 28) (by omega)
    have hmod : F (m / 28) % 2 ^ (m % 28 + 1) = 0 := by
      by_cases e : (m + 1) % 28 = 0
      · rw [h10 (m / 28) (by omega), Nat.zero_mod]
      · rw [show (m + 1) / 28 = m / 28 by omega, show (m + 1) % 28 = m % 28 + 1 by omega] at h11
        exact h11
    have hlt : F (m / 28) ||| 2 ^ (m % 28) < 268435456 := Nat.or_lt_two_pow (n := 28) g2 (Nat.pow_lt_pow_right (by omega) (by omega))
    refine ⟨F (m / 28), g2, g1, hlt, Or.inr ⟨q, upN F (m / 28) (F (m / 28) ||| 2 ^ (m % 28)), rfl, hq, h3, h4, h5, h6, h7, h8.set hq (by omega) hlt, ?_, fun i hi => ?_, ?_⟩⟩
    · have h12 := vq_upm (F := F) (k := m / 28) (r := F (m / 28) ||| 2 ^ (m % 28)) (n := d / 28 + 1) (by omega)
      have h13 : 2 ^ m = 2 ^ (m % 28) * 268435456 ^ (m / 28) := by
        rw [p28, ← Nat.pow_add]
        congr 1
        omega
      rw [or_bit hmod] at *
      rw [h9] at h12
      rw [h13]
      rw [Nat.add_mul] at h12
      omega
    · rw [upN_n (by omega)]
      exact h10 i (by omega)
    · rw [upN_e, or_bit hmod]
      have := dvd_bit hmod
      rw [Nat.add_mod_right]
      exact this
theorem div_end {x y v r : Nat} (h : x = v * y + r) (hr : r < y) : x / y = v ∧ x % y = r := by
  subst h
  constructor
  · rw [Nat.mul_comm, Nat.mul_add_div (by omega), Nat.div_eq_of_lt hr, Nat.add_zero]
  · rw [Nat.mul_comm, Nat.mul_add_mod, Nat.mod_eq_of_lt hr]
theorem cr_wL {ρ : RS} {t k : Nat} (ht : t < 227) (hk : k < 440) (v : Int64) : Cr ρ (wL ρ (nI (440 * t + k)) v) (fun z => z = t) := (Cr.refl ρ (fun z => z = t)).wL ht hk rfl v
theorem div_neg {bx by' : Nat} (h : bx < by') (hb : by' ≤ 12040) : ∃ E, E ≤ 1 ∧ ∀ k, k < 1000 → ((nI bx - nI by') / (28 : Int32) < nI k ↔ E ≤ k) := by
  have h1 : (nI bx - nI by').toInt = (bx : Int) - by' := pk_sub_toInt (by omega) (by omega)
  have h2 : ((nI bx - nI by') / (28 : Int32)).toInt = -(((by' - bx) / 28 : Nat) : Int) := by
    rw [Int32.toInt_div, h1, show (28 : Int32).toInt = 28 from rfl, show (bx : Int) - by' = -((by' - bx : Nat) : Int) by omega, Int.neg_tdiv, Int.tdiv_eq_ediv_of_nonneg (by omega)]
    rw [Int.bmod_eq_of_le (by omega) (by omega)]
    rfl
  refine ⟨if (by' - bx) / 28 = 0 then 1 else 0, by split <;> omega, fun k hk => ?_⟩
  rw [Int32.lt_iff_toInt_lt, h2, nI_toInt (by omega)]
  split <;> omega
theorem sp_rdivide {a b x y : Nat} {y0 : Int} {x3 : Int32} {ρ : RS} {Q : RS → Prop} (ha : a < 227) (hb : b < 227) (hab : b ≠ a) (ha2 : a ≠ 224) (hb2 : b ≠ 224) (hx : RpR ρ a x) (hy : RpR ρ b y0) (hyy : y0.natAbs = y) (hy0 : y ≠ 0)
    (h3 : x3 = -1 ∨ ∃ q, x3 = nI q ∧ q < 227 ∧ q ≠ a ∧ q ≠ b ∧ q ≠ 224)
    (hQ : ∀ ρ', RpR ρ' a (x % y : Nat) → (∀ q, q < 227 → x3 = nI q → RpR ρ' q (x / y : Nat)) → Cr ρ ρ' (dS x3 a) → Q ρ') : wpX5_divide (nI a) (nI b) x3 ρ Q := by
  have hxb : x < 268435456 ^ 430 := by have := hx.bd; omega
  have fin : ∀ (τ : RS) (v r : Nat), RpR τ a r → x = v * y + r → r < y → Cr ρ τ (dS x3 a) → (x3 = -1 ∨ ∃ q s F, x3 = nI q ∧ q < 227 ∧ q ≠ a ∧ rS τ q = nI s ∧ s ≤ 440 ∧ rG τ q = 1 ∧ Dg τ q s F ∧ vq F s = v) → wpX5_divide_189 (nI a) (nI b) x3 Q τ := by
    intro τ v r hr he hl hC hq
    obtain ⟨e1, e2⟩ := div_end he hl
    unfold wpX5_divide_189
    refine ⟨fun h => hQ τ (by rw [e2]; exact hr) (fun q hq1 hq2 => absurd (hq2.symm.trans h) (nI_m1 hq1)) hC, fun h => ?_⟩
    rcases hq with hq | ⟨q, s, F, hq1, hq2, hq3, hq4, hq5, hq6, hq7, hq8⟩
    · exact absurd hq h
    · subst hq1
      have hvx : v < 268435456 ^ 430 := by
        have : v * 1 ≤ v * y := Nat.mul_le_mul_left _ (by omega)
        omega
      refine sp_rtrim (s := s) (D := F) (x := (v : Int)) hq2 hq4 hq5 (by omega) hq7 (by omega) (fun h0 => by rw [hq6, sg32_pos (by omega)]) (fun ρ' g1 g2 => hQ ρ' ?_ ?_ (hC.trans (g2.mono (fun z hz => Or.inr (Or.inr ⟨by rw [hz]; exact hq2, by rw [hz]⟩)))))
      · rw [e2]
        exact hr.cr g2 (fun e => hq3 e.symm)
      · intro q' h4 h5
        have : q = q' := (nI_eq (by omega) (by omega)).mp h5
        subst this
        rw [e1]
        exact g1
  show wpX5_divide_0 (nI a) (nI b) x3 Q ρ
  unfold wpX5_divide_0
  refine sp_rbits ha hx (fun bx hbx hB => sp_rbits hb hy (fun by' hby hB2 a19 ha19 => ?_))
  rw [show ((x : Int)).natAbs = x by omega] at hB
  rw [hyy] at hB2
  -- from line 85
  have key : ∀ τ, Cr ρ τ (dS x3 a) → (bx < by' → (x3 = -1 ∨ ∃ q, x3 = nI q ∧ q < 227 ∧ q ≠ a ∧ rS τ q = nI 0 ∧ rG τ q = 1)) → (by' ≤ bx → Qst x3 a b (bx - by') (bx - by' + 1) τ 0) → RpR τ a x → RpR τ b y0 → wpX5_divide_85 (nI a) (nI b) x3 Q a19 τ := by
    intro τ hC hq1 hq2 hxa hyb
    unfold wpX5_divide_85
    subst ha19
    rcases Nat.lt_or_ge bx by' with hlt | hge
    · have hneg := pk_sneg (a := bx) (b := by') (by omega) hlt
      refine ⟨fun _ => ?_, fun h => absurd hneg h⟩
      have hxy : x < y := by
        have h5 := hB2.2.1 hy0
        have h6 : 2 ^ bx * 2 ≤ 2 ^ by' := by
          rw [← Nat.pow_succ]
          exact Nat.pow_le_pow_right (by omega) hlt
        have := hB.1
        omega
      refine fin τ 0 x hxa (by omega) hxy hC ?_
      rcases hq1 hlt with h | ⟨q, h4, h5, h6, h7, h8⟩
      · exact Or.inl h
      · exact Or.inr ⟨q, 0, fun _ => 0, h4, h5, h6, h7, by omega, h8, fun j hj => absurd hj (by omega), rfl⟩
    · rw [pk_sub hge]
      have hQs := hq2 hge
      clear hq1 hq2
      generalize hd : bx - by' = d at *
      have hy2 : y * 2 ^ d < 2 ^ 12040 := by
        have h5 : y * 2 ^ d < 2 ^ by' * 2 ^ d := Nat.mul_lt_mul_of_pos_right hB2.1 (Nat.pow_pos (by omega))
        rw [← Nat.pow_add] at h5
        exact Nat.lt_of_lt_of_le h5 (Nat.pow_le_pow_right (by omega) (by omega))
      have hx2 : x < y * 2 ^ (d + 1) := by
        have h5 := hB2.2.1 hy0
        have h6 : 2 ^ by' * 2 ^ d ≤ 2 * y * 2 ^ d := Nat.mul_le_mul_right _ h5
        rw [← Nat.pow_add, show by' + d = bx by omega] at h6
        have := hB.1
        rw [Nat.pow_succ]
        rw [Nat.mul_comm 2 y, Nat.mul_assoc, Nat.mul_comm 2] at h6
        omega
      refine ⟨fun h => absurd h (nI_pos (by omega)), fun _ => ?_⟩
      refine sp_rcopy (t := 224) hb (by omega) hyb (fun τ1 g1 g2 => ⟨pk_in 224 _ (by omega), ?_⟩)
      have g3 : RpR (wG τ1 (nI 224) 1) 224 (y : Int) := g1.wG (by omega) (by omega) (by rw [sg32_pos (by omega)])
      have hS1 : ∀ z, z = 224 → z = a ∨ z = 224 := fun z hz => Or.inr hz
      have hS2 : ∀ z, z = 224 → dS x3 a z := fun z hz => Or.inr (Or.inl hz)
      have g4 : Cr τ (wG τ1 (nI 224) 1) (fun z => z = 224) := g2.wG (by omega) rfl _
      refine sp_rshift (n := 224) (by omega) (by omega) g3 (by omega) ?_ (fun τ2 g5 g6 => ?_)
      · rw [Int.natAbs_mul, Int.natAbs_pow, show (2 : Int).natAbs = 2 from rfl, p28]
        exact hy2
      have hyd : (y : Int) * 2 ^ d = ((y * 2 ^ (d + 1) / 2 : Nat) : Int) := by
        rw [Nat.pow_succ, ← Nat.mul_assoc, Nat.mul_div_cancel _ (by omega), Int.natCast_mul, Int.natCast_pow]
        rfl
      rw [hyd] at g5
      have g7 := g4.trans g6
      refine lq3_i (I := fun i5 i6 τ => i5 = (224 : Int32) ∧ ∃ m r v, m ≤ d + 1 ∧ i6 = nI m - 1 ∧ RpR τ a ((r : Nat) : Int) ∧ RpR τ 224 ((y * 2 ^ m / 2 : Nat) : Int) ∧ x = v * y + r ∧ r < y * 2 ^ m ∧ Qst x3 a b d m τ v ∧ Cr ρ τ (dS x3 a)) (μ := fun _ i6 _ => (i6 + 1).toNatClampNeg) ?_ _ _ _ ⟨rfl, d + 1, x, 0, Nat.le_refl _, (nI_pred d).symm, hxa.cr g7 ha2, g5, by omega, hx2, hQs.cr (by omega) g7 hS1, hC.trans (g7.mono hS2)⟩
      clear g1 g2 g3 g4 g5 g6 g7 hQs hxa hyb hC τ τ1 τ2 hyd
      rintro N i5 i6 τ ⟨rfl, m, r, v, hm, rfl, hra, ht, hxe, hr, hqs, hC⟩ hN
      unfold wbX5_divide_122
      rw [dg_lt0 (by omega)]
      refine ⟨fun h1 => ?_, fun h1 => ?_⟩
      · subst h1
        refine fin τ v r hra hxe (by rw [Nat.pow_zero] at hr; omega) hC ?_
        rcases hqs with h | ⟨q, F, h4, h5, h6, h7, h8, h9, h10, h11, h12, _⟩
        · exact Or.inl h
        · exact Or.inr ⟨q, d / 28 + 1, F, h4, h5, h6, h9, by omega, h10, h11, h12⟩
      · obtain ⟨u, rfl⟩ : ∃ u, m = u + 1 := ⟨m - 1, by omega⟩
        rw [nI_pred]
        have eT : y * 2 ^ (u + 1) / 2 = y * 2 ^ u := by rw [Nat.pow_succ, ← Nat.mul_assoc, Nat.mul_div_cancel _ (by omega)]
        have eT2 : y * 2 ^ (u + 1) = y * 2 ^ u * 2 := by rw [Nat.pow_succ, Nat.mul_assoc]
        rw [eT] at ht
        have hTb := ht.bd
        have h177 : ∀ τ' r' v', RpR τ' a ((r' : Nat) : Int) → RpR τ' 224 ((y * 2 ^ u : Nat) : Int) → x = v' * y + r' → r' < y * 2 ^ u → Qst x3 a b d u τ' v' → Cr ρ τ' (dS x3 a) → wpX5_divide_177 (nI a) (nI b) x3 Q N (224 : Int32) (nI u) τ' := by
          intro τ' r' v' f1 f2 f3 f4 f5 f6
          unfold wpX5_divide_177
          refine sp_rhalve (n := 224) (by omega) f2 (by omega) (fun τ3 f7 f8 a5 ha5 => ?_)
          subst ha5
          refine hN _ _ _ ⟨rfl, u, r', v', by omega, (Int32.sub_eq_add_neg _ _).symm, f1.cr f8 ha2, ?_, f3, f4, f5.cr (by omega) f8 hS1, f6.trans (f8.mono hS2)⟩ ?_
          · rw [show ((y * 2 ^ u / 2 : Nat) : Int) = ((y * 2 ^ u : Nat) : Int) / 2 by omega]
            exact f7
          · show (nI u + (-1) + 1).toNatClampNeg < (nI (u + 1) - 1 + 1).toNatClampNeg
            rw [m1p1, nI_pred, nI_1, nI_clamp (by omega), nI_clamp (by omega)]
            omega
        refine sp_compareSizes (b := 224) ha (by omega) hra ht ?_
        rw [cmp32_lt, show ((r : Nat) : Int).natAbs = r by omega, show ((y * 2 ^ u : Nat) : Int).natAbs = y * 2 ^ u by omega]
        refine ⟨fun h4 => h177 τ r v hra ht hxe h4 hqs.skip hC, fun h4 => ?_⟩
        have hrb := hra.bd
        refine sp_rsum (e := -1) (b := 224) ha ha (by omega) hra ht (Or.inr ⟨rfl, rfl⟩) (by omega) (fun τ3 f1 f2 => ?_)
        rw [show (r : Int) + -1 * ((y * 2 ^ u : Nat) : Int) = ((r - y * 2 ^ u : Nat) : Int) by omega] at f1
        have f3 : RpR τ3 224 ((y * 2 ^ u : Nat) : Int) := ht.cr f2 (fun e => ha2 e.symm)
        have f4 : Cr ρ τ3 (dS x3 a) := hC.trans (f2.mono (fun z hz => Or.inl hz))
        have f5 : Qst x3 a b d (u + 1) τ3 v := hqs.cr (by omega) f2 (fun z hz => Or.inl hz)
        have f6 : x = (v + 2 ^ u) * y + (r - y * 2 ^ u) := by
          rw [Nat.add_mul, Nat.mul_comm (2 ^ u)]
          omega
        have f7 : r - y * 2 ^ u < y * 2 ^ u := by omega
        refine ⟨fun h5 => h177 τ3 _ _ f1 f3 f6 f7 (Or.inl h5) f4, fun h5 => ?_⟩
        rcases h3 with h6 | ⟨q, h6, hq2, hq3, hq4, hq5⟩
        · exact absurd h6 h5
        · subst h6
          obtain ⟨f, hf1, hf2, hf3, hf4⟩ := f5.put hq2 (by omega) (by omega)
          have e1 : nI u / (28 : Int32) = nI (u / 28) := pk_div (d := 28) (by omega) (by omega) (by omega)
          have e2 : nI u - nI u / (28 : Int32) * (28 : Int32) = nI (u % 28) := pk_rem (d := 28) (by omega) (by omega) (by omega)
          rw [e2, e1, ix, nI_clamp (by omega)]
          have e3 : rL τ3 (440 * q + u / 28) = lN f := hf2
          have e4 : jlshl (1 : Int64) (nI (u % 28)) = lN (2 ^ (u % 28)) := by
            have := wb_shl 1 (k := u % 28) (by omega)
            rw [Nat.one_mul] at this
            exact this
          have e5 : 2 ^ (u % 28) < 2 ^ 64 := Nat.pow_lt_pow_right (by omega) (by omega)
          rw [e3, e4, wb_or (by omega) e5]
          have fc := cr_wL (ρ := τ3) hq2 (show u / 28 < 440 by omega) (lN (f ||| 2 ^ (u % 28)))
          refine ⟨pk_in (440 * q + u / 28) _ (by omega), pk_in (440 * q + u / 28) _ (by omega), h177 _ _ _ (f1.cr fc (fun e => hq3 e.symm)) (f3.cr fc (fun e => hq5 e.symm)) f6 f7 hf4 (f4.trans (fc.mono (fun z hz => Or.inr (Or.inr ⟨by rw [hz]; exact hq2, by rw [hz]⟩))))⟩
  refine ⟨fun h => key ρ (Cr.refl _ _) (fun _ => Or.inl h) (fun _ => Or.inl h) hx hy, fun h => ?_⟩
  rcases h3 with h6 | ⟨q, h6, hq2, hq3, hq4, hq5⟩
  · exact absurd h6 h
  subst h6
  have hqS : ∀ z, z = q → dS (nI q) a z := fun z hz => Or.inr (Or.inr ⟨by rw [hz]; exact hq2, by rw [hz]⟩)
  refine sp_rzero hq2 (fun τ1 g1 g2 => ?_)
  have hE : ∃ E, E ≤ 431 ∧ (by' ≤ bx → E = (bx - by') / 28 + 1) ∧ ∀ k, k < 1000 → (a19 / (28 : Int32) < nI k ↔ E ≤ k) := by
    rcases Nat.lt_or_ge bx by' with hlt | hge
    · obtain ⟨E, h1, h2⟩ := div_neg hlt hby
      rw [← ha19] at h2
      exact ⟨E, by omega, fun h => absurd h (by omega), h2⟩
    · refine ⟨(bx - by') / 28 + 1, by omega, fun _ => rfl, fun k hk => ?_⟩
      rw [ha19, pk_sub hge, show (28 : Int32) = nI 28 from rfl, pk_div (by omega) (by omega) (by omega), nI_ltI (by omega) (by omega)]
      omega
  obtain ⟨E, hE1, hE2, hE3⟩ := hE
  refine lq3_i (I := fun i4 i5 τ => i4 = a19 ∧ ∃ k, k ≤ E ∧ i5 = nI k ∧ Dg τ q k (fun _ => 0) ∧ Fr τ1 τ q k) (μ := fun _ i5 _ => E - i5.toNatClampNeg) ?_ _ _ _ ⟨rfl, 0, by omega, rfl, fun j hj => absurd hj (by omega), Fr.refl _ _⟩
  rintro N i4 i5 τ ⟨rfl, k, hk, rfl, hF, hFr⟩ hN
  unfold wbX5_divide_26
  rw [hE3 k (by omega), ix]
  refine ⟨fun h1 => ?_, fun h1 => ⟨pk_in (440 * q + k) _ (by omega), fun a14 ha14 => ?_⟩⟩
  · have hke : k = E := by omega
    subst hke
    have fin2 : ∀ z, (bx < by' → z = nI 0) → (by' ≤ bx → z = nI k) → wpX5_divide_78 (nI a) (nI b) (nI q) Q i4 (wS τ (nI q) z) := by
      intro z hz1 hz2
      unfold wpX5_divide_78
      have hC : Cr ρ (wG (wS τ (nI q) z) (nI q) 1) (fun z => z = q) := (((g2.trans hFr.cr).wS hq2 rfl _).wG hq2 rfl _)
      refine ⟨pk_in q _ hq2, key _ (hC.mono hqS) (fun hlt => Or.inr ⟨q, rfl, hq2, hq3, ?_, ?_⟩) (fun hge => Or.inr ⟨q, fun _ => 0, rfl, hq2, hq3, hq4, hq5, ?_, ?_, ?_, ?_, fun _ _ => rfl, Nat.zero_mod _⟩) (hx.cr hC (fun e => hq3 e.symm)) (hy.cr hC (fun e => hq4 e.symm))⟩
      · rw [rS_wG, rS_wS hq2, if_pos rfl, hz1 hlt]
      · rw [rG_wG hq2, if_pos rfl]
      · rw [rS_wG, rS_wS hq2, if_pos rfl, hz2 hge, hE2 hge]
      · rw [rG_wG hq2, if_pos rfl]
      · rw [← hE2 hge]
        exact hF
      · generalize (bx - by') / 28 + 1 = n
        induction n with
        | zero => rfl
        | succ n ih =>
          show vq (fun _ => 0) n + 0 * 268435456 ^ n = 0
          rw [ih, Nat.zero_mul]
    rcases Nat.lt_or_ge bx by' with hlt | hge
    · have hneg := pk_sneg (a := bx) (b := by') (by omega) hlt
      rw [← ha19] at hneg
      refine ⟨fun h => absurd hneg (Int32.not_lt.mpr h), fun _ => ⟨pk_in q _ hq2, fin2 _ (fun _ => rfl) (fun h => absurd h (by omega))⟩⟩
    · rw [ha19, pk_sub hge] at *
      have e1 : nI (bx - by') / (28 : Int32) = nI ((bx - by') / 28) := pk_div (d := 28) (by omega) (by omega) (by omega)
      rw [e1, nI_1]
      exact ⟨fun _ => ⟨pk_in q _ hq2, fin2 _ (fun h => absurd h (by omega)) (fun h => by rw [hE2 h])⟩, fun h => absurd (nI_pos' (by omega)) h⟩
  · subst ha14
    refine hN _ _ _ ⟨rfl, k + 1, by omega, nI_1 k, fun j hj => ?_, hFr.step hq2 (by omega) _⟩ ?_
    · rw [lm_we _ _ _ _ _ (by omega)]
      by_cases e : j = k
      · rw [if_pos e]
        exact ⟨rfl, show 0 < 268435456 by omega⟩
      · rw [if_neg e]
        exact hF j (by omega)
    · show E - (nI k + 1).toNatClampNeg < E - (nI k).toNatClampNeg
      rw [nI_1, nI_clamp (by omega), nI_clamp (by omega)]
      omega
def rv (τ : RS) (n : Nat) : Nat := vq (fun k => (lm τ n k).toBitVec.toNat) (rS τ n).toNatClampNeg
theorem RpR.rvv {τ : RS} {n : Nat} {x : Int} (h : RpR τ n x) : rv τ n = x.natAbs := by
  obtain ⟨s, D, h1, h2, h3, h4, h5⟩ := h.raw
  unfold rv
  rw [h2, nI_clamp (by omega), h5]
  refine vq_congr (fun j hj => ?_)
  rw [(h3 j hj).1, wb_tn (by have := (h3 j hj).2; omega)]
theorem RpR.sz {τ : RS} {n : Nat} {x : Int} (h : RpR τ n x) : rS τ n ≤ 0 ↔ x = 0 := by
  obtain ⟨s, D, h1, h2, h3, h4, h5⟩ := h.raw
  rw [h2, show (0 : Int32) = nI 0 from rfl, nI_leI (by omega) (by omega)]
  have := vq_0 h4
  omega
def gS (n : Nat) (z : Nat) : Prop := z = n ∨ z = 224 ∨ z = 225 ∨ z = 226
theorem sp_rcommon {n b : Nat} {x y : Int} {ρ : RS} {Q : RS → Prop} (hn : n < 224) (hb : b < 224) (hx : RpR ρ n x) (hy : RpR ρ b y)
    (hQ : ∀ ρ', RpR ρ' n ((Nat.gcd x.natAbs y.natAbs : Nat) : Int) → Cr ρ ρ' (gS n) → Q ρ') : wpX5_common (nI n) (nI b) ρ Q := by
  show wpX5_common_0 (nI n) (nI b) Q ρ
  unfold wpX5_common_0
  refine sp_rcopy (t := 225) (by omega) (by omega) hx (fun τ1 g1 g2 => sp_rcopy (t := 226) (by omega) (by omega) (hy.cr g2 (by omega)) (fun τ2 g3 g4 => ?_))
  have g5 : RpR τ2 225 x := g1.cr g4 (by omega)
  have hC2 : Cr ρ τ2 (gS n) := (g2.mono (fun z hz => Or.inr (Or.inr (Or.inl hz)))).trans (g4.mono (fun z hz => Or.inr (Or.inr (Or.inr hz))))
  have loop : ∀ τ, RpR τ 225 ((x.natAbs : Nat) : Int) → RpR τ 226 ((y.natAbs : Nat) : Int) → Cr ρ τ (gS n) → ∃ m, lq3 (wbX5_common_64 (nI n) (nI b) Q) m (225 : Int32) (226 : Int32) τ := by
    intro τ k1 k2 k3
    refine lq3_i (I := fun i3 i4 τ => ∃ u v g h, ((u = 225 ∧ v = 226) ∨ (u = 226 ∧ v = 225)) ∧ i3 = nI u ∧ i4 = nI v ∧ RpR τ u ((g : Nat) : Int) ∧ RpR τ v ((h : Nat) : Int) ∧ Nat.gcd g h = Nat.gcd x.natAbs y.natAbs ∧ Cr ρ τ (gS n)) (μ := fun _ i4 τ => rv τ i4.toNatClampNeg) ?_ _ _ _ ⟨225, 226, _, _, Or.inl ⟨rfl, rfl⟩, rfl, rfl, k1, k2, rfl, k3⟩
    clear k1 k2 k3 τ
    rintro N i3 i4 τ ⟨u, v, g, h, huv, rfl, rfl, hu, hv, hg, hC⟩ hN
    unfold wbX5_common_64 wpX5_common_91
    rw [nI_clamp (by omega), nI_clamp (by omega), hv.sz, hu.sz]
    refine ⟨pk_in v _ (by omega), fun h1 => ?_, fun h1 => ⟨pk_in u _ (by omega), fun h2 => ?_, fun h2 => ?_⟩⟩
    · refine sp_rcopy (by omega) (by omega) hu (fun τ' f1 f2 => hQ τ' ?_ (hC.trans (f2.mono (fun z hz => Or.inl hz))))
      have : h = 0 := by omega
      subst this
      rw [Nat.gcd_zero_right] at hg
      rw [← hg]
      exact f1
    · refine hN _ _ _ ⟨v, u, h, g, by omega, rfl, rfl, hv, hu, by rw [Nat.gcd_comm]; exact hg, hC⟩ ?_
      show rv τ (nI u).toNatClampNeg < rv τ (nI v).toNatClampNeg
      rw [nI_clamp (by omega), nI_clamp (by omega), hv.rvv, hu.rvv]
      omega
    · refine sp_rdivide (x := g) (y := h) (by omega) (by omega) (by omega) (by omega) (by omega) hu hv (by omega) (by omega) (Or.inl rfl) (fun τ' f1 _ f2 => ?_)
      have f3 : ∀ z, dS (-1) u z → gS n z := fun z hz => by
        rcases hz with e | e | ⟨e, e2⟩
        · unfold gS; omega
        · unfold gS; omega
        · exact absurd e2.symm (nI_m1 e)
      have f4 : RpR τ' v ((h : Nat) : Int) := hv.cr f2 (fun hz => by
        rcases hz with e | e | ⟨e, e2⟩
        · omega
        · omega
        · exact absurd e2.symm (nI_m1 e))
      refine hN _ _ _ ⟨v, u, h, g % h, by omega, rfl, rfl, f4, f1, by rw [← hg, Nat.gcd_comm g h, Nat.gcd_rec h g, Nat.gcd_comm], hC.trans (f2.mono f3)⟩ ?_
      show rv τ' (nI u).toNatClampNeg < rv τ (nI v).toNatClampNeg
      rw [nI_clamp (by omega), nI_clamp (by omega), hv.rvv, f1.rvv]
      have := Nat.mod_lt g (show 0 < h by omega)
      omega
  have abs0 : ∀ w : Int, ((w.natAbs : Nat) : Int).natAbs = w.natAbs := fun w => by omega
  have step2 : ∀ τ, RpR τ 225 ((x.natAbs : Nat) : Int) → RpR τ 226 y → Cr ρ τ (gS n) → wpX5_common_42 (nI n) (nI b) Q (225 : Int32) (226 : Int32) τ := by
    intro τ k1 k2 k3
    unfold wpX5_common_42
    have hcl : (226 : Int32).toNatClampNeg = 226 := by decide
    rw [hcl, k2.sz]
    have k4 : ∀ g, g = sg32 ((y.natAbs : Nat) : Int) → ∃ m, lq3 (wbX5_common_64 (nI n) (nI b) Q) m (225 : Int32) (226 : Int32) (wG τ (226 : Int32) g) := fun g hg => by
      have c := cr_wG (ρ := τ) (t := 226) (by omega) g
      exact loop (wG τ (nI 226) g) (k1.cr c (by omega)) (k2.wG (by omega) (abs0 y) hg) (k3.trans (c.mono (fun z hz => Or.inr (Or.inr (Or.inr hz)))))
    refine ⟨pk_in 226 _ (by omega), fun h => ⟨pk_in 226 _ (by omega), k4 0 ?_⟩, fun h => ⟨pk_in 226 _ (by omega), k4 1 ?_⟩⟩
    · rw [h]; rfl
    · rw [sg32_pos (by omega)]
  have hcl : (225 : Int32).toNatClampNeg = 225 := by decide
  rw [hcl, g5.sz]
  have k4 : ∀ g, g = sg32 ((x.natAbs : Nat) : Int) → wpX5_common_42 (nI n) (nI b) Q (225 : Int32) (226 : Int32) (wG τ2 (225 : Int32) g) := fun g hg => by
    have c := cr_wG (ρ := τ2) (t := 225) (by omega) g
    exact step2 (wG τ2 (nI 225) g) (g5.wG (by omega) (abs0 x) hg) (g3.cr c (by omega)) (hC2.trans (c.mono (fun z hz => Or.inr (Or.inr (Or.inl hz)))))
  refine ⟨pk_in 225 _ (by omega), fun h => ⟨pk_in 225 _ (by omega), k4 0 ?_⟩, fun h => ⟨pk_in 225 _ (by omega), k4 1 ?_⟩⟩
  · rw [h]; rfl
  · rw [sg32_pos (by omega)]
