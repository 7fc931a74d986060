/-! PURE: divisorAtEnd, commonDivisor, squareFree, prepare -/
def one1 (i : Nat) : Int := if i = 0 then 1 else 0
theorem one9 : ∀ i, 9 ≤ i → one1 i = 0 := fun i hi => if_neg (by omega)
theorem dl_one : dl one1 = 1 := by decide
theorem cnt_one : cnt one1 = 1 := by decide
theorem lc_one : lc one1 = 1 := by decide
theorem pp_const {c : Row} (h9 : ∀ i, 9 ≤ i → c i = 0) (h : dl c = 1) : ppos c = one1 := by
  have h0 : c 0 ≠ 0 := by
    have : c (dl c - 1) ≠ 0 := ln_top (show dl c ≠ 0 by omega)
    rw [h] at this
    exact this
  refine pp_uniq (a := 1) (b := c 0) h9 one9 (by omega) cnt_one (by rw [lc_one]; decide) (by decide) h0 (fun i => ?_)
  rw [Int.one_mul]
  by_cases e : i = 0
  · subst e
    exact (Int.mul_one _).symm
  · rw [dl_zero h9 (by omega), show one1 i = 0 from if_neg e, Int.mul_zero]
theorem capL {i : Nat} (h : i ≤ 9) : capP (10 + i) = 100 := by unfold capP; rw [if_neg (by omega), if_neg (by omega), if_neg (by omega)]
theorem gcd_lt {a b X : Nat} (ha : a ≠ 0) (h : a < X) : Nat.gcd a b < X := Nat.lt_of_le_of_lt (Nat.gcd_le_left _ (by omega)) h
theorem sp_divEnd {l : Nat} {L : Nat → Row} {σ : CS} {Q : Nat → CS → Prop} (hl1 : 1 ≤ l) (hl9 : l ≤ 9) (hK : cK σ 0 = nI l) (hP : ∀ i, i ≤ l → Pl σ (10 + i) (L i)) (hS : SCp L l) (hE : SCe L l) (hb : ∀ i, (L 0 i).natAbs < 2147483648 ^ 6)
    (hQ : ∀ σ', Pl σ' (10 + l) (ppos (L l)) → Cg σ σ' (fun w => inP (10 + l) w ∨ (320 ≤ w ∧ w < 324)) (fun p => p = 10 + l) → Q (10 + l) σ') : wpX1_divisorAtEnd σ Q := by
  have hdl := dl_le (L l)
  obtain ⟨hll0, hl9'⟩ := hS.1 l (Nat.le_refl _)
  obtain ⟨h00, h09⟩ := hS.1 0 (Nat.zero_le _)
  obtain ⟨h10, h19⟩ := hS.1 1 hl1
  have e0 : (0 : Int32).toNatClampNeg = 0 := rfl
  have e1 : (1 : Int32).toNatClampNeg = 1 := rfl
  show wpX1_divisorAtEnd_0 Q σ
  unfold wpX1_divisorAtEnd_0 wpX1_divisorAtEnd_53
  rw [hK, nI_clamp (by omega), (hP l (Nat.le_refl _)).2.2, deg_s hll0, le1 _ (by omega), e0, e1]
  refine ⟨pk_in l _ (by omega), fun hd => ⟨v0, v1, ?_⟩, fun hd => ?_⟩
  · have hG9 : ∀ i, 9 ≤ i → ppos (L l) i = 0 := fun i hi => pp9 hl9' hi
    have hG0 : dl (ppos (L l)) ≠ 0 := by rw [dl_pp hl9' hll0]; exact hll0
    obtain ⟨q0, hq0, hp0, hd0, hlc0, hq0n⟩ := dv_top hG9 h09 hG0 h00 (chain_dvd hl1 hS hE 0 (Nat.zero_le _))
    obtain ⟨q1, hq1, hp1, hd1, hlc1, hq1n⟩ := dv_top hG9 h19 hG0 h10 (chain_dvd hl1 hS hE 1 hl1)
    have hlb := lc_abs (X := 2147483648 ^ 6 - 1) (P := L 0) (fun i => by have := hb i; omega)
    have hl0 := lc_ne h00
    have hbG := (factors_bd h09 hq0 hG9 h00 hq0n hG0 hp0 hlc0 (fun i => Nat.le_of_lt (hb i))).1
    have hGi : ∀ i, (ppos (L l) i).natAbs < 2147483648 ^ 8 := fun i => Nat.lt_of_le_of_lt (Nat.le_trans (ns_ge9 hG9 i) (Nat.le_trans hbG (fbd_le (by have := dl_le (ppos (L l)); omega) _ _))) fbd8
    have hlm := lc_pp hl9' hll0
    have hkap := kap_ne hll0
    have key : ∀ g : Int, g.natAbs = Nat.gcd (lc (L 0)).natAbs (lc (L 1)).natAbs → ∃ t : Int, g = lc (ppos (L l)) * t ∧ t ≠ 0 ∧ g.natAbs < 2147483648 ^ 6 := by
      intro g hg
      have h1 : (lc (ppos (L l))).natAbs ∣ g.natAbs := by
        rw [hg]
        exact Nat.dvd_gcd (Int.natAbs_dvd_natAbs.mpr (by rw [hlc0]; exact Int.dvd_mul_left _ _)) (Int.natAbs_dvd_natAbs.mpr (by rw [hlc1]; exact Int.dvd_mul_left _ _))
      obtain ⟨t, ht⟩ := Int.natAbs_dvd_natAbs.mp h1
      have h2 : 0 < Nat.gcd (lc (L 0)).natAbs (lc (L 1)).natAbs := Nat.gcd_pos_of_pos_left _ (by omega)
      refine ⟨t, ht, fun e => ?_, ?_⟩
      · rw [e, Int.mul_zero] at ht
        omega
      · rw [hg]
        exact gcd_lt (by omega) (by omega)
    have hmul : ∀ (g t : Int) i, g = lc (ppos (L l)) * t → L l i * g = lc (L l) * (ppos (L l) i * t) := by
      intro g t i hgt
      rw [hgt, hlm, kap_pp hl9' i]
      grind
    refine sp_mkSmall (by omega) (by omega) (by omega) (hP l (Nat.le_refl _)) (hP 0 (Nat.zero_le _)) (hP 1 hl1) hll0 h00 h10 (fun g hg i => ?_) (fun τ1 g hg hP1 hC1 => ?_)
    · obtain ⟨t, hgt, ht0, hgb⟩ := key g hg
      have hm := hmul g t i hgt
      refine ⟨by rw [hm]; exact Int.dvd_mul_right _ _, ?_, ?_⟩
      · have h1 : (L l i).natAbs < 2147483648 ^ 100 := by
          rcases Nat.lt_or_ge i (tlen (10 + l)) with h2 | h2
          · have h3 := ((hP l (Nat.le_refl _)).1 i h2).bd
            rw [cap_t (10 + l) (by omega) i (by have := tlen_le (10 + l); omega), capL hl9] at h3
            exact h3
          · rw [(hP l (Nat.le_refl _)).2.1 i h2]
            exact Nat.pow_pos (by omega)
        exact lt_cap (bd_mul h1 hgb) (by omega)
      · rw [hm, Int.mul_tdiv_cancel_left _ (lc_ne hll0), capL hl9]
        have ht : t.natAbs < 2147483648 ^ 6 := by
          refine Nat.lt_of_le_of_lt ?_ hgb
          rw [hgt]
          exact natAbs_le_mulR (lc_ne hG0)
        exact lt_cap (bd_mul (hGi i) ht) (by omega)
    · obtain ⟨t, hgt, ht0, hgb⟩ := key g hg
      have hm' : (fun i => (L l i * g).tdiv (lc (L l))) = fun i => t * ppos (L l) i := funext (fun i => by
        rw [hmul g t i hgt, Int.mul_tdiv_cancel_left _ (lc_ne hll0), Int.mul_comm])
      rw [hm'] at hP1
      have hpp : ppos (fun i => t * ppos (L l) i) = ppos (L l) := by
        refine pp_uniq (a := 1) (b := t) (fun i hi => by show t * _ = 0; rw [hG9 i hi, Int.mul_zero]) hG9 (by rw [dl_mul hG9 ht0]; exact hG0) (cnt_pp hl9' hll0) (lc_pp_pos hl9' hll0) (by decide) ht0 (fun i => Int.one_mul _)
      refine sp_mkPrim (by omega) hP1 (fun τ2 hP2 hC2 => hQ τ2 (by rw [← hpp]; exact hP2) ((hC1.mono (fun _ z => z) (fun _ z => z.elim)).trans (hC2.mono (fun w hw => by rcases hw with hw | hw; exact Or.inl hw; unfold tS at hw; exact Or.inr (by omega)) (fun _ z => z.elim))))
  · refine sp_psetOne (by omega) (fun τ1 hP1 hC1 => hQ τ1 ?_ (hC1.mono (fun w hw => Or.inl hw) (fun _ z => z)))
    rw [pp_const hl9' (by omega)]
    exact hP1
theorem roomA {N : Nat} (h : N ≤ 16) : roomR (36 * 2147483648 ^ 6) N := Or.inl ⟨h, by decide +kernel, by decide +kernel⟩
theorem roomB {N : Nat} (h : N ≤ 13) : roomR (7 * fbd 7 (2147483648 ^ 6 * 19173961) (2147483648 ^ 6)) N := Or.inr ⟨h, by decide +kernel, by decide +kernel⟩
theorem ns9 (r : Row) : ns r 9 = (r 0).natAbs + (r 1).natAbs + (r 2).natAbs + (r 3).natAbs + (r 4).natAbs + (r 5).natAbs + (r 6).natAbs + (r 7).natAbs + (r 8).natAbs := by
  simp only [ns, Nat.zero_add]
theorem ns_bd9 {r : Row} {X : Nat} (h : ∀ i, (r i).natAbs ≤ X) : ns r 9 ≤ 9 * X := by
  rw [ns9]
  have h0 := h 0; have h1 := h 1; have h2 := h 2; have h3 := h 3; have h4 := h 4; have h5 := h 5; have h6 := h 6; have h7 := h 7; have h8 := h 8
  omega
theorem dv_abs (c : Row) (i : Nat) : (dv c i).natAbs = (c (i + 1)).natAbs * (i + 1) := by
  unfold dv
  rw [Int.natAbs_mul]
  congr 1
theorem dv9 {c : Row} (h9 : ∀ i, 9 ≤ i → c i = 0) : ∀ i, 9 ≤ i → dv c i = 0 := fun i hi => by unfold dv; rw [h9 (i + 1) (by omega), Int.zero_mul]
theorem ns_dv36 {c : Row} {X : Nat} (h9 : ∀ i, 9 ≤ i → c i = 0) (h : ∀ i, (c i).natAbs ≤ X) : ns (dv c) 9 ≤ 36 * X := by
  rw [ns9]
  simp only [dv_abs]
  rw [h9 9 (by omega)]
  have h1 := h 1; have h2 := h 2; have h3 := h 3; have h4 := h 4; have h5 := h 5; have h6 := h 6; have h7 := h 7; have h8 := h 8
  simp only [Nat.zero_add, Nat.reduceAdd]
  show _ + (0 : Int).natAbs * 9 ≤ _
  simp only [Int.natAbs_zero, Nat.zero_mul]
  omega
theorem ns_dv7 {c : Row} (h8 : ∀ i, 8 ≤ i → c i = 0) : ns (dv c) 9 ≤ 7 * ns c 9 := by
  rw [ns9, ns9]
  simp only [dv_abs]
  rw [h8 9 (by omega), h8 8 (by omega)]
  simp only [Nat.zero_add, Nat.reduceAdd, Int.natAbs_zero, Nat.zero_mul]
  omega
theorem dl_dv {c : Row} (h9 : ∀ i, 9 ≤ i → c i = 0) : dl (dv c) = dl c - 1 := by
  have := dl_le c
  refine dl_uniq (by omega) (fun i hi => ?_) (fun h => ?_)
  · unfold dv
    rw [dl_zero h9 (by omega), Int.zero_mul]
  · unfold dv
    have h1 : c (dl c - 1) ≠ 0 := ln_top (show dl c ≠ 0 by omega)
    rw [show dl c - 1 - 1 + 1 = dl c - 1 by omega]
    exact Int.mul_ne_zero h1 (by omega)
theorem dlt_iff {a b : Nat} (ha : a ≤ 9) (hb : b ≤ 9) : nI a - 1 < nI b - 1 ↔ a < b := by
  rw [Int32.lt_iff_toInt_lt, deg_toInt ha, deg_toInt hb]
  omega
/-- what the chain's methods change -/
def cxS (w : Nat) : Prop := 128 ≤ w
def cxD (p : Nat) : Prop := 8 ≤ p
theorem Cx.c {σ σ' : CS} (h : Cx σ σ' kS kD) : Cx σ σ' cxS cxD := h.mono (fun w hw => by unfold kS inP at hw; unfold cxS; omega) (fun p hp => by unfold kD at hp; unfold cxD; omega)
/-- G is the greatest common divisor that a chain of x and y ends with -/
def GcdOf (x y G : Row) : Prop := (dl y = 0 ∧ G = ppos x) ∨ (dl y ≠ 0 ∧ ∃ l L, 1 ≤ l ∧ SCp L l ∧ SCe L l ∧ L 0 = x ∧ L 1 = y ∧ G = ppos (L l))
theorem sp_cd53 {p1 p2 : Nat} {x y : Row} {σ0 σ : CS} {Q : Nat → CS → Prop} (h0 : Pl σ 10 x) (h1 : Pl σ 11 y) (hb0 : ∀ i, (x i).natAbs < 2147483648 ^ 6) (hb1 : ∀ i, (y i).natAbs < 2147483648 ^ 6) (hd : dl y ≤ dl x) (hC : Cx σ0 σ cxS cxD)
    (hQ : ∀ σ' p G, 10 ≤ p → p < 20 → Pl σ' p G → GcdOf x y G → Cx σ0 σ' cxS cxD → Q p σ') : wpX1_commonDivisor_53 p1 p2 Q σ := by
  have hdx := dl_le x
  have hdy := dl_le y
  have e0 : (0 : Int32).toNatClampNeg = 0 := rfl
  have e1 : (1 : Int32).toNatClampNeg = 1 := rfl
  unfold wpX1_commonDivisor_53
  rw [e0, e1, h1.2.2, deg_nn hdy]
  refine ⟨v1, fun hy0 => ?_, fun hy0 => ⟨v0, ?_⟩⟩
  · have hR : ∀ {c : Row}, (∀ i, (c i).natAbs < 2147483648 ^ 6) → ns c 9 ≤ 36 * 2147483648 ^ 6 := fun h => Nat.le_trans (ns_bd9 (fun i => Nat.le_of_lt (h i))) (Nat.mul_le_mul_right _ (by omega))
    refine sp_build (R := 36 * 2147483648 ^ 6) (n0 := dl x - 1) (n1 := dl y - 1) (roomA (by omega)) (by omega) h0 h1 (by omega) (by omega) (hR hb0) (hR hb1) (fun τ1 l L hl1 hl9 hK hL0 hL1 hP hS hE hC1 => ?_)
    refine sp_divEnd hl1 hl9 hK hP hS hE (by rw [hL0]; exact hb0) (fun τ2 hP2 hC2 => hQ τ2 (10 + l) _ (by omega) (by omega) hP2 (Or.inr ⟨hy0, l, L, hl1, hS, hE, hL0, hL1, rfl⟩) ((hC.trans hC1.c).trans (hC2.cx.mono (fun w hw => ?_) (fun p hp => ?_))))
    · unfold inP at hw; unfold cxS; omega
    · unfold cxD; omega
  · refine sp_mkPrim (by omega) h0 (fun τ1 hP1 hC1 => ⟨v0, hQ τ1 10 _ (by omega) (by omega) hP1 (Or.inl ⟨by omega, rfl⟩) (hC.trans (hC1.cx.mono (fun w hw => ?_) (fun _ z => z.elim)))⟩)
    unfold inP tS at hw; unfold cxS; omega
theorem Pl.reg {σ σ' : CS} {p : Nat} {c : Nat → Int} (h : Pl σ p c) (hc : Cx σ σ' cxS cxD) (hp : p < 8) : Pl σ' p c := h.cx hc (fun w hw => by unfold inP at hw; unfold cxS; omega) (by unfold cxD; omega)
theorem sp_commonDivisor {p1 p2 : Nat} {x y : Row} {σ : CS} {Q : Nat → CS → Prop} (hp1 : p1 < 8) (hp2 : p2 < 8) (h1 : Pl σ p1 x) (h2 : Pl σ p2 y) (hb1 : ∀ i, (x i).natAbs < 2147483648 ^ 6) (hb2 : ∀ i, (y i).natAbs < 2147483648 ^ 6)
    (hQ : ∀ σ' p G, 10 ≤ p → p < 20 → Pl σ' p G → GcdOf (if dl x < dl y then y else x) (if dl x < dl y then x else y) G → Cx σ σ' cxS cxD → Q p σ') : wpX1_commonDivisor p1 p2 σ Q := by
  have hdx := dl_le x
  have hdy := dl_le y
  have e0 : (0 : Int32).toNatClampNeg = 0 := rfl
  have e1 : (1 : Int32).toNatClampNeg = 1 := rfl
  have c10 : capP 10 = 100 := rfl
  have c11 : capP 11 = 100 := rfl
  have t10 : tlen 10 = 9 := rfl
  have t11 : tlen 11 = 9 := rfl
  have hl10 : ∀ {τ τ' : CS}, Cg τ τ' (inP 10) (fun z => z = 10) → Cx τ τ' cxS cxD := fun h => h.cx.mono (fun w hw => by unfold inP at hw; unfold cxS; omega) (fun p hp => by unfold cxD; omega)
  have hl11 : ∀ {τ τ' : CS}, Cg τ τ' (inP 11) (fun z => z = 11) → Cx τ τ' cxS cxD := fun h => h.cx.mono (fun w hw => by unfold inP at hw; unfold cxS; omega) (fun p hp => by unfold cxD; omega)
  show wpX1_commonDivisor_0 p1 p2 Q σ
  unfold wpX1_commonDivisor_0 wpX1_commonDivisor_17 wpX1_commonDivisor_35
  rw [h1.2.2, h2.2.2, dlt_iff hdx hdy, e0, e1]
  refine ⟨fun hlt => ⟨v0, fun _ => ?_, fun h => absurd rfl h⟩, fun hlt => ⟨v0, fun h => absurd h (by decide), fun _ => ?_⟩⟩
  · rw [if_pos hlt, if_pos hlt] at hQ
    refine sp_pload (by omega) (by omega) h2 (fun i _ => by rw [c10]; exact lt_cap (hb2 i) (by omega)) (fun i hi => h2.top hi) (fun τ1 hP1 hC1 => ⟨v1, fun _ => ?_, fun h => absurd rfl h⟩)
    refine sp_pload (by omega) (by omega) (h1.reg (hl10 hC1) hp1) (fun i _ => by rw [c11]; exact lt_cap (hb1 i) (by omega)) (fun i hi => h1.top hi) (fun τ2 hP2 hC2 => ?_)
    exact sp_cd53 (hP1.cg hC2 (fun w hw => inP_ne (by omega) hw) (by omega)) hP2 hb2 hb1 (by omega) ((hl10 hC1).trans (hl11 hC2)) hQ
  · rw [if_neg hlt, if_neg hlt] at hQ
    refine sp_pload (by omega) (by omega) h1 (fun i _ => by rw [c10]; exact lt_cap (hb1 i) (by omega)) (fun i hi => h1.top hi) (fun τ1 hP1 hC1 => ⟨v1, fun h => absurd h (by decide), fun _ => ?_⟩)
    refine sp_pload (by omega) (by omega) (h2.reg (hl10 hC1) hp2) (fun i _ => by rw [c11]; exact lt_cap (hb2 i) (by omega)) (fun i hi => h2.top hi) (fun τ2 hP2 hC2 => ?_)
    exact sp_cd53 (hP1.cg hC2 (fun w hw => inP_ne (by omega) hw) (by omega)) hP2 hb1 hb2 (by omega) ((hl10 hC1).trans (hl11 hC2)) hQ
/-- the part of x that has its roots once, up to a factor -/
def SqP (x : Row) (q : Row) : Prop := ∃ l L, 1 ≤ l ∧ SCp L l ∧ SCe L l ∧ L 0 = x ∧ L 1 = dv x ∧ (∀ i, 9 ≤ i → q i = 0) ∧ (∀ m, x m = pm q (ppos (L l)) 9 m) ∧ dl x + 1 = dl q + dl (L l) ∧ dl q ≠ 0
/-- begin, build, divisorAtEnd, splits -/
theorem SCp.mono {L : Nat → Row} {l : Nat} (hS : SCp L l) : ∀ i, 1 ≤ i → i ≤ l → dl (L i) ≤ dl (L 1) := by
  intro i h1 h2
  induction i with
  | zero => omega
  | succ i ih =>
    rcases Nat.eq_zero_or_pos i with e | e
    · subst e; exact Nat.le_refl _
    · have h3 := (hS.2 i e (by omega)).1
      have h4 := ih e (by omega)
      omega
theorem sp_split_end {l : Nat} {L : Nat → Row} {σ : CS} {Q : Int32 → CS → Prop} (hl1 : 1 ≤ l) (hl9 : l ≤ 9) (hK : cK σ 0 = nI l) (hP : ∀ i, i ≤ l → Pl σ (10 + i) (L i)) (hS : SCp L l) (hE : SCe L l) (hb : ∀ i, (L 0 i).natAbs < 2147483648 ^ 6)
    (hQ : ∀ σ' q, Pl σ' 9 q → (∀ i, 9 ≤ i → q i = 0) → (∀ m, L 0 m = pm q (ppos (L l)) 9 m) → dl (L 0) + 1 = dl q + dl (L l) → dl q ≠ 0 → ns q 9 ≤ fbd (dl q - 1) (2147483648 ^ 6 * 19173961) (2147483648 ^ 6) → Cx σ σ' cxS cxD → Q 1 σ') : wpX1_divisorAtEnd σ (fun q8 σ7 => wpX0_splits 10 q8 σ7 Q) := by
  obtain ⟨hll0, hl9'⟩ := hS.1 l (Nat.le_refl _)
  obtain ⟨h00, h09⟩ := hS.1 0 (Nat.zero_le _)
  refine sp_divEnd hl1 hl9 hK hP hS hE hb (fun τ1 hP1 hC1 => ?_)
  have hP10 : Pl τ1 10 (L 0) := (hP 0 (Nat.zero_le _)).cg hC1 (fun w hw => by unfold inP at hw; unfold inP; omega) (by omega)
  have hG9 : ∀ i, 9 ≤ i → ppos (L l) i = 0 := fun i hi => pp9 hl9' hi
  have hdG := dl_pp hl9' hll0
  have hG0 : dl (ppos (L l)) ≠ 0 := by rw [hdG]; exact hll0
  obtain ⟨q, hq, hp, hd, hlc, hqn⟩ := dv_top hG9 h09 hG0 h00 (chain_dvd hl1 hS hE 0 (Nat.zero_le _))
  obtain ⟨hbG, hbq⟩ := factors_bd h09 hq hG9 h00 hqn hG0 hp hlc (fun i => Nat.le_of_lt (hb i))
  have hGi : ∀ i, (ppos (L l) i).natAbs < 2147483648 ^ 8 := fun i => Nat.lt_of_le_of_lt (Nat.le_trans (ns_ge9 hG9 i) (Nat.le_trans hbG (fbd_le (by have := dl_le (ppos (L l)); omega) _ _))) fbd8
  have hqi : ∀ i, (q i).natAbs < 2147483648 ^ 8 := fun i => Nat.lt_of_le_of_lt (Nat.le_trans (ns_ge9 hq i) (Nat.le_trans hbq (fbd_le (by have := dl_le q; omega) _ _))) fbd8
  have hqG : ∀ j i, (q j * ppos (L l) i).natAbs < 2147483648 ^ 16 := fun j i => bd_mul (hqi j) (hGi i)
  have hdq := dl_le q
  have hk : dl (L 0) + 1 - dl (ppos (L l)) = dl q := by omega
  have hPq : L 0 = fun m => pm q (ppos (L l)) (dl q) m := funext (fun m => by rw [hp m]; exact pm_ext (by omega) (fun i hi => dl_zero hq hi))
  have hGe : ppos (L l) (dl (ppos (L l)) - 1) ≠ 0 := ln_top hG0
  have hex := dv_exact (q := q) hGe (fun i hi => dl_zero hG9 (by omega)) (fun k i hk => lt_cap (bd_9 (k := 16) (Nat.le_trans (pm_bd (X := 2147483648 ^ 16 - 1) (fun i j => by have := hqG i j; omega) k i) (Nat.mul_le_mul_right _ (by omega))) (by decide)) (by omega)) (fun j i => lt_cap (hqG j i) (by omega)) (dl q) hdq
  rw [← hPq] at hex
  refine sp_splits (by omega) (by omega) (by omega) (by omega) (by omega) hP10 hP1 (fun i => lt_cap (hb i) (by omega)) (fun _ => by rw [hk]; exact hex.2.2) (fun r τ2 hC2 hr => ?_)
  rw [hk] at hr
  rcases hr with ⟨_, h1 | h1⟩ | ⟨h1, _, _, h4⟩
  · exact absurd h1 hG0
  · exact absurd hex.1 h1
  · subst h1
    have hfq : dvQ (ppos (L l)) (dl (ppos (L l)) - 1) (dl q) (L 0) = q := funext (fun i => by
      rw [hex.2.1 i]
      by_cases e : i < dl q
      · exact if_pos e
      · rw [if_neg e, dl_zero hq (by omega)])
    rw [hfq] at h4
    refine hQ τ2 q h4 hq hp (by omega) hqn hbq ((hC1.cx.mono (fun w hw => ?_) (fun p hp => ?_)).trans (hC2.cx.mono (fun w hw => ?_) (fun p hp => ?_)))
    · unfold inP at hw; unfold cxS; omega
    · unfold cxD; omega
    · unfold bS9 inP at hw; unfold cxS; omega
    · unfold bD9 at hp; unfold cxD; omega
theorem hb98 {c : Row} (h : ∀ i, (c i).natAbs < 2147483648 ^ 6) (i : Nat) : (c i).natAbs < 2147483648 ^ 98 := lt_cap (h i) (by omega)
theorem begin_c {σ σ' : CS} (h : Cg σ σ' (fun w => inP 10 w ∨ inP 11 w) (fun p => p = 10 ∨ p = 11)) : Cx σ σ' cxS cxD := h.cx.mono (fun w hw => by unfold inP at hw; unfold cxS; omega) (fun p hp => by unfold cxD; omega)
theorem ge1deg {a : Nat} (h : a ≤ 9) : (1 : Int32) ≤ nI a - 1 ↔ 2 ≤ a := by
  rw [Int32.le_iff_toInt_le, deg_toInt h]
  show (1 : Int) ≤ _ ↔ _
  omega
theorem sp_squareFree {p1 : Nat} {x : Row} {σ : CS} {Q : Nat → CS → Prop} (hp1 : p1 < 8) (h1 : Pl σ p1 x) (hx0 : dl x ≠ 0) (hb : ∀ i, (x i).natAbs < 2147483648 ^ 6)
    (hQ : ∀ σ' p S, 9 ≤ p → p < 20 → Pl σ' p S → (dl x = 1 ∧ S = one1) ∨ (2 ≤ dl x ∧ ∃ q, SqP x q ∧ S = ppos q) → Cx σ σ' cxS cxD → Q p σ') : wpX1_squareFree p1 σ Q := by
  have hdx := dl_le x
  have e0 : (0 : Int32).toNatClampNeg = 0 := rfl
  have h9 := h1.i9
  show wpX1_squareFree_0 p1 Q σ
  unfold wpX1_squareFree_0
  refine sp_begin (by omega) h1 (hb98 hb) (fun τ1 hP0 hP1 hC1 => ?_)
  have hCx1 := begin_c hC1
  rw [(h1.reg hCx1 hp1).2.2, ge1deg hdx, e0]
  have hdv := dl_dv h9
  refine ⟨fun hd => ?_, fun hd => ⟨v0, sp_psetOne (by omega) (fun τ2 hP2 hC2 => ⟨v0, hQ τ2 10 _ (by omega) (by omega) hP2 (Or.inl ⟨by omega, rfl⟩) (hCx1.trans (hC2.cx.mono (fun w hw => ?_) (fun p hp => ?_)))⟩)⟩⟩
  · refine sp_build (R := 36 * 2147483648 ^ 6) (n0 := dl x - 1) (n1 := dl x - 2) (roomA (by omega)) (by omega) hP0 hP1 (by omega) (by omega) (Nat.le_trans (ns_bd9 (fun i => Nat.le_of_lt (hb i))) (Nat.mul_le_mul_right _ (by omega))) (ns_dv36 h9 (fun i => Nat.le_of_lt (hb i))) (fun τ2 l L hl1 hl9 hK hL0 hL1 hP hS hE hC2 => ⟨v0, ?_⟩)
    refine sp_split_end hl1 hl9 hK hP hS hE (by rw [hL0]; exact hb) (fun τ3 q hPq hq9 hpm hdl hqn hbq hC3 => sp_mkPrim (by omega) hPq (fun τ4 hP4 hC4 => hQ τ4 9 _ (by omega) (by omega) hP4 (Or.inr ⟨hd, q, ⟨l, L, hl1, hS, hE, hL0, hL1, hq9, by rw [← hL0]; exact hpm, by rw [← hL0]; exact hdl, hqn⟩, rfl⟩) (((hCx1.trans hC2.c).trans hC3).trans (hC4.cx.mono (fun w hw => ?_) (fun _ z => z.elim)))))
    unfold inP tS at hw; unfold cxS; omega
  · unfold inP at hw; unfold cxS; omega
  · unfold cxD; omega
/-- what the chain holds when it is prepared -/
def Prep (x : Row) (l : Nat) (L : Nat → Row) : Prop := (dl x = 1 ∧ l = 0 ∧ L 0 = x) ∨ (2 ≤ dl x ∧ 1 ≤ l ∧ SCp L l ∧ SCe L l ∧ L 1 = dv (L 0) ∧ ((L 0 = x ∧ dl (L l) = 1) ∨ SqP x (L 0)))
theorem sp_prepare {p1 : Nat} {x : Row} {σ : CS} {Q : CS → Prop} (hp1 : p1 < 8) (h1 : Pl σ p1 x) (hx0 : dl x ≠ 0) (hb : ∀ i, (x i).natAbs < 2147483648 ^ 6)
    (hQ : ∀ σ' l L, l ≤ 9 → cK σ' 0 = nI l → (∀ i, i ≤ l → Pl σ' (10 + i) (L i)) → Prep x l L → Cx σ σ' cxS cxD → Q σ') : wpX1_prepare p1 σ Q := by
  have hdx := dl_le x
  have e0 : (0 : Int32).toNatClampNeg = 0 := rfl
  have h9 := h1.i9
  show wpX1_prepare_0 p1 Q σ
  unfold wpX1_prepare_0
  refine sp_begin (by omega) h1 (hb98 hb) (fun τ1 hP0 hP1 hC1 => ?_)
  have hCx1 := begin_c hC1
  rw [(h1.reg hCx1 hp1).2.2, ge1deg hdx, e0]
  have hdv := dl_dv h9
  refine ⟨fun hd => ?_, fun hd => hQ _ 0 (fun _ => x) (by omega) (cK_sK _ _) (fun i hi => ?_) (Or.inl ⟨by omega, rfl, rfl⟩) (hCx1.trans (Cx.sK _ _ _ _))⟩
  · refine sp_build (R := 36 * 2147483648 ^ 6) (n0 := dl x - 1) (n1 := dl x - 2) (roomA (by omega)) (by omega) hP0 hP1 (by omega) (by omega) (Nat.le_trans (ns_bd9 (fun i => Nat.le_of_lt (hb i))) (Nat.mul_le_mul_right _ (by omega))) (ns_dv36 h9 (fun i => Nat.le_of_lt (hb i))) (fun τ2 l L hl1 hl9 hK hL0 hL1 hP hS hE hC2 => ?_)
    have hCx2 := hCx1.trans hC2.c
    have hll := (hS.1 l (Nat.le_refl _)).1
    have hdll := dl_le (L l)
    rw [hK, nI_clamp (by omega), (hP l (Nat.le_refl _)).2.2, deg_s hll, pos32 _ (by omega)]
    refine ⟨pk_in l _ (by omega), fun hz => hQ τ2 l L hl9 hK hP (Or.inr ⟨hd, hl1, hS, hE, by rw [hL0, hL1], Or.inl ⟨hL0, by omega⟩⟩) hCx2, fun hz => ⟨v0, ?_⟩⟩
    refine sp_split_end hl1 hl9 hK hP hS hE (by rw [hL0]; exact hb) (fun τ3 q hPq hq9 hpm hdl hqn hbq hC3 => ?_)
    rw [hL0] at hpm hdl
    have hdq := dl_le q
    have hm := hS.mono l hl1 (Nat.le_refl _)
    rw [hL1] at hm
    have hq8 : ∀ i, 8 ≤ i → q i = 0 := fun i hi => dl_zero hq9 (by omega)
    have hbq7 : ns q 9 ≤ fbd 7 (2147483648 ^ 6 * 19173961) (2147483648 ^ 6) := Nat.le_trans hbq (fbd_le (by omega) _ _)
    have hqi : ∀ i, (q i).natAbs < 2147483648 ^ 98 := fun i => Nat.lt_of_le_of_lt (Nat.le_trans (ns_ge9 hq9 i) hbq7) (by decide +kernel)
    refine sp_begin (by omega) hPq hqi (fun τ4 hP40 hP41 hC4 => ?_)
    have hdvq := dl_dv hq9
    refine sp_build (R := 7 * fbd 7 (2147483648 ^ 6 * 19173961) (2147483648 ^ 6)) (n0 := dl q - 1) (n1 := dl q - 2) (roomB (by omega)) (by omega) hP40 hP41 (by omega) (by omega) (Nat.le_trans hbq7 (Nat.le_mul_of_pos_left _ (by omega))) (Nat.le_trans (ns_dv7 hq8) (Nat.mul_le_mul_left _ hbq7)) (fun τ5 l2 L2 hl21 hl29 hK2 hL20 hL21 hP2 hS2 hE2 hC5 => ?_)
    exact hQ τ5 l2 L2 hl29 hK2 hP2 (Or.inr ⟨hd, hl21, hS2, hE2, by rw [hL20, hL21], Or.inr (by rw [hL20]; exact ⟨l, L, hl1, hS, hE, hL0, hL1, hq9, hpm, hdl, hqn⟩)⟩) (((hCx2.trans hC3).trans (begin_c hC4)).trans hC5.c)
  · have e : i = 0 := by omega
    subst e
    exact hP0
