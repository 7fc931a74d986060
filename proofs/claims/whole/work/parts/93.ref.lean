/-! PURE: the reference's onceOf -/
/-- the part whose roots are simple -/
def Once (c S : Row) : Prop := (dl c = 1 ∧ S = one1) ∨ (2 ≤ dl c ∧ ∃ q, SqP c q ∧ S = ppos q)
theorem cnt_fac {q G P : Row} {n : Nat} (h : ∀ m, P m = pm q G n m) (hn : n ≤ 9) (hP : cnt P = 1) (hq : ∀ i, 9 ≤ i → q i = 0) : cnt q = 1 := by
  have h1 : ∀ k m, k ≤ 9 → ((cnt q : Nat) : Int) ∣ pm q G k m := by
    intro k m
    induction k with
    | zero => intro _; exact Int.dvd_zero _
    | succ k ih =>
      intro hk
      rw [pm_s]
      refine Int.dvd_add (ih (by omega)) ?_
      split
      · exact Int.dvd_mul_of_dvd_left (cnt_dvd hq k)
      · exact Int.dvd_zero _
  have h2 : cnt q ∣ cnt P := dvd_cnt (fun i => by rw [h i]; exact h1 n i hn)
  rw [hP] at h2
  exact Nat.dvd_one.mp h2
theorem dv_dlt {c : Row} (h9 : ∀ i, 9 ≤ i → c i = 0) (h0 : dl c ≠ 0) : ori c (dv c) = c ∧ ori2 c (dv c) = dv c := by
  have := dl_dv h9
  unfold ori ori2
  rw [if_neg (by omega), if_neg (by omega)]
  exact ⟨rfl, rfl⟩
/-- room for the chain of c and its slope -/
def roomy (S : Row) : Prop := 2 ≤ dl S → ∃ R, PG R (dl S - 1) (dl (dv S) - 1) S (dv S)
theorem roomyA {S : Row} (h9 : ∀ i, 9 ≤ i → S i = 0) (hb : ∀ i, (S i).natAbs < 2147483648 ^ 6) : roomy S := by
  intro h2
  have h3 := dl_dv h9
  have h4 := dl_le S
  refine ⟨36 * 2147483648 ^ 6, roomA (by omega), by decide +kernel, by omega, by omega, h9, dv9 h9, Nat.le_trans (ns_bd9 (fun i => Nat.le_of_lt (hb i))) (Nat.mul_le_mul_right _ (by omega)), ns_dv36 h9 (fun i => Nat.le_of_lt (hb i)), by omega, by omega⟩
/-- quotient of the primitive part by the divisor -/
theorem once_math {c H : Row} (h9 : ∀ i, 9 ≤ i → c i = 0) (h0 : dl c ≠ 0) (hb : ∀ i, (c i).natAbs < 2147483648 ^ 6) (hH : GcdOf c (dv c) H) : ∃ S, Once c S ∧ (∀ i, 9 ≤ i → S i = 0) ∧ dl S ≠ 0 ∧ cnt S = 1 ∧ 0 < lc S ∧ roomy S ∧ (∀ i, (S i).natAbs < 2147483648 ^ 8) ∧ dl H ≠ 0 ∧
    dvB H (dl H - 1) 60 (dl (ppos c) + 1 - dl H) (ppos c) ∧ dvOK H (dl H - 1) (dl (ppos c) + 1 - dl H) (ppos c) ∧ dvQ H (dl H - 1) (dl (ppos c) + 1 - dl H) (ppos c) = S := by
  have hdv := dl_dv h9
  have hdc := dl_le c
  have hdp := dl_pp h9 h0
  have hp9 : ∀ i, 9 ≤ i → ppos c i = 0 := fun i hi => pp9 h9 hi
  have hpb : ∀ i, (ppos c i).natAbs < 2147483648 ^ 6 := fun i => Nat.lt_of_le_of_lt (pp_abs h9 h0 i) (hb i)
  have hk0 := kap_ne h0
  have hcp := cnt_pp h9 h0
  have hlp := lc_pp_pos h9 h0
  -- H divides the primitive part
  have hfac : (∀ i, 9 ≤ i → H i = 0) ∧ dl H ≠ 0 ∧ 0 < lc H ∧ Dv H (ppos c) := by
    rcases hH with ⟨e, hH⟩ | ⟨e, l, L, hl1, hS, hE, hL0, hL1, hH⟩
    · rw [hH]
      exact ⟨hp9, by omega, hlp, Dv.self _⟩
    · have hl9 := (hS.1 l (Nat.le_refl _)).2
      have hl0 := (hS.1 l (Nat.le_refl _)).1
      rw [hH]
      refine ⟨fun i hi => pp9 hl9 hi, by rw [dl_pp hl9 hl0]; exact hl0, lc_pp_pos hl9 hl0, ?_⟩
      refine gauss (prim_of (cnt_pp hl9 hl0)) hk0 ?_
      rw [← fun_kap h9, ← hL0]
      exact chain_dvd hl1 hS hE 0 (Nat.zero_le _)
  obtain ⟨hH9, hH0, hlH, hDv⟩ := hfac
  obtain ⟨q, hq, hp, hd, hlc, hqn⟩ := dv_top hH9 hp9 hH0 (by omega) hDv
  have hdq := dl_le q
  have hcq : cnt q = 1 := cnt_fac hp (Nat.le_refl _) hcp hq
  have hlq : 0 < lc q := by
    rw [hlc] at hlp
    rcases Int.lt_trichotomy (lc q) 0 with e | e | e
    · have := Int.mul_neg_of_neg_of_pos e hlH
      omega
    · rw [e, Int.zero_mul] at hlp
      omega
    · exact e
  obtain ⟨hbG, hbq⟩ := factors_bd hp9 hq hH9 (by omega) hqn hH0 hp hlc (fun i => Nat.le_of_lt (hpb i))
  have hGi : ∀ i, (H i).natAbs < 2147483648 ^ 8 := fun i => Nat.lt_of_le_of_lt (Nat.le_trans (ns_ge9 hH9 i) (Nat.le_trans hbG (fbd_le (by have := dl_le H; omega) _ _))) fbd8
  have hqi : ∀ i, (q i).natAbs < 2147483648 ^ 8 := fun i => Nat.lt_of_le_of_lt (Nat.le_trans (ns_ge9 hq i) (Nat.le_trans hbq (fbd_le (by omega) _ _))) fbd8
  have hqG : ∀ j i, (q j * H i).natAbs < 2147483648 ^ 16 := fun j i => bd_mul (hqi j) (hGi i)
  have hk : dl (ppos c) + 1 - dl H = dl q := by omega
  have hPq : ppos c = fun m => pm q H (dl q) m := funext (fun m => by rw [hp m]; exact pm_ext (by omega) (fun i hi => dl_zero hq hi))
  have hGe : H (dl H - 1) ≠ 0 := ln_top hH0
  have hex := dv_exact (q := q) hGe (fun i hi => dl_zero hH9 (by omega)) (fun k i hk => lt_cap (bd_9 (k := 16) (Nat.le_trans (pm_bd (X := 2147483648 ^ 16 - 1) (fun i j => by have := hqG i j; omega) k i) (Nat.mul_le_mul_right _ (by omega))) (by decide)) (by omega)) (fun j i => lt_cap (hqG j i) (by omega)) (dl q) hdq
  rw [← hPq] at hex
  have hfq : dvQ H (dl H - 1) (dl q) (ppos c) = q := funext (fun i => by
    rw [hex.2.1 i]
    by_cases e : i < dl q
    · exact if_pos e
    · rw [if_neg e, dl_zero hq (by omega)])
  refine ⟨q, ?_, hq, hqn, hcq, hlq, ?_, hqi, hH0, by rw [hk]; exact hex.2.2, by rw [hk]; exact hex.1, by rw [hk]; exact hfq⟩
  · rcases hH with ⟨e, hH⟩ | ⟨e, l, L, hl1, hS, hE, hL0, hL1, hH⟩
    · refine Or.inl ⟨by omega, ?_⟩
      have hone := pp_const h9 (show dl c = 1 by omega)
      rw [hone] at hp hd
      rw [hH, hone] at hp hd
      rw [dl_one] at hd
      refine (pp_uniq0 (a := 1) (b := 1) one9 hq cnt_one hcq (by rw [lc_one]; omega) hlq (by omega) (fun i => ?_)).symm
      rw [Int.one_mul, Int.one_mul, hp i, pm_const (B := one1) (fun m hm => if_neg (by omega))]
      by_cases e2 : i < 9
      · rw [if_pos e2, show one1 0 = 1 from rfl, Int.mul_one]
      · rw [if_neg e2, hq i (by omega)]
    · refine Or.inr ⟨by omega, fun i => kap c * q i, ⟨l, L, hl1, hS, hE, hL0, hL1, fun i hi => by show kap c * q i = 0; rw [hq i hi, Int.mul_zero], fun m => ?_, ?_, ?_⟩, ?_⟩
      · rw [pm_mul, ← hH, ← hp m]
        exact kap_pp h9 m
      · rw [dl_mul hq hk0]
        have := dl_pp (hS.1 l (Nat.le_refl _)).2 (hS.1 l (Nat.le_refl _)).1
        rw [← hH] at this
        omega
      · rw [dl_mul hq hk0]
        exact hqn
      · exact (pp_uniq (a := 1) (b := kap c) (fun i hi => by show kap c * q i = 0; rw [hq i hi, Int.mul_zero]) hq (by rw [dl_mul hq hk0]; exact hqn) hcq hlq (by omega) hk0 (fun i => by rw [Int.one_mul])).symm
  · rcases Nat.lt_or_ge 1 (dl H) with e | e
    · intro h2
      have hq8 : ∀ i, 8 ≤ i → q i = 0 := fun i hi => dl_zero hq (by omega)
      have hbq7 : ns q 9 ≤ fbd 7 (2147483648 ^ 6 * 19173961) (2147483648 ^ 6) := Nat.le_trans hbq (fbd_le (by omega) _ _)
      have hdvq := dl_dv hq
      refine ⟨7 * fbd 7 (2147483648 ^ 6 * 19173961) (2147483648 ^ 6), roomB (by omega), by decide +kernel, by omega, by omega, hq, dv9 hq, Nat.le_trans hbq7 (Nat.le_mul_of_pos_left _ (by omega)), Nat.le_trans (ns_dv7 hq8) (Nat.mul_le_mul_left _ hbq7), by omega, by omega⟩
    · have hH1 : dl H = 1 := by omega
      have hHc : ∀ m, 1 ≤ m → H m = 0 := fun m hm => dl_zero hH9 (by omega)
      have hHn : H 0 ≠ 0 := by
        rw [hH1] at hGe
        exact hGe
      refine roomyA hq (fun i => Nat.lt_of_le_of_lt ?_ (hpb i))
      rw [hp i, pm_const hHc]
      by_cases e2 : i < 9
      · rw [if_pos e2, Int.natAbs_mul]
        exact Nat.le_mul_of_pos_right _ (by omega)
      · rw [if_neg e2, hq i (by omega)]
        exact Nat.zero_le _
theorem pw6 {x : Nat} (h : x < 2147483648 ^ 6) : x * 16 < 268435456 ^ 430 := by
  have h1 : x * 16 < 2147483648 ^ 6 * 16 := by omega
  exact Nat.lt_trans h1 (by decide +kernel)
theorem sp_ronce {p : Nat} {c : Row} {ρ : RS} {Q : RS → Prop} (hp : p < 8) (h : PR ρ p c) (h0 : dl c ≠ 0) (hb : ∀ i, (c i).natAbs < 2147483648 ^ 6)
    (hQ : ∀ ρ' S, PR ρ' 21 S → Once c S → (∀ i, 9 ≤ i → S i = 0) → dl S ≠ 0 → cnt S = 1 → 0 < lc S → roomy S → (∀ i, (S i).natAbs < 2147483648 ^ 8) → Cq ρ ρ' hiS hiD → Q ρ') : wpX5_onceOf (nI p) ρ Q := by
  have h9 := h.2.1
  have hdv := dl_dv h9
  show wpX5_onceOf_0 (nI p) Q ρ
  unfold wpX5_onceOf_0
  refine sp_rcopyAll (q := 18) (by omega) (by omega) (by omega) h (fun τ1 f1 f2 => ?_)
  refine sp_rderive (p := 18) (q := 19) (by omega) (by omega) (by omega) f1 (fun i => pw6 (hb i)) (fun τ2 f3 f4 => ?_)
  have f5 : PR τ2 18 c := f1.cq f4 (fun n hn => by unfold inR at hn; unfold dvS2 inR tmR; omega) (by omega)
  obtain ⟨o1, o2⟩ := dv_dlt h9 h0
  have hC2 : Cq ρ τ2 hiS hiD := (cp_hi (by omega) f2).trans (f4.hi (fun n hn => by unfold dvS2 inR tmR at hn; omega) (fun p hp => by omega))
  refine sp_rdivisor f5 f3 (fun _ hd => ?_) (fun τ3 H f6 f7 f8 => ?_)
  · rw [o1, o2]
    exact roomyA h9 hb (by omega)
  rw [o1, o2] at f7
  have hC3 := hC2.trans f8
  obtain ⟨S, s1, s2, s3, s4, s5, s6, s7, s8, s9, s10, s11⟩ := once_math h9 h0 hb f7
  refine sp_rcopyAll (p := 18) (q := 22) (by omega) (by omega) (by omega) f6 (fun τ4 f9 f10 => ?_)
  have hC4 := hC3.trans (cp_hi (by omega) f10)
  refine sp_rcopyAll (p := p) (q := 18) (by omega) (by omega) (by omega) (h.low hC4 (by omega)) (fun τ5 f11 f12 => ?_)
  have hC5 := hC4.trans (cp_hi (by omega) f12)
  refine sp_rmkPrim (p := 18) (by omega) f11 h0 (fun τ6 f13 f14 => ?_)
  rw [if_pos rfl] at f13
  have hC6 := hC5.trans (mp_hi (by omega) f14)
  refine sp_rcopyAll (p := 22) (q := 19) (by omega) (by omega) (by omega) ((f9.cp f12 (by omega)).mp f14 (by omega) (by omega)) (fun τ7 f15 f16 => ?_)
  have hC7 := hC6.trans (cp_hi (by omega) f16)
  refine sp_rover (f13.cp f16 (by omega)) f15 s8 s9 (fun r τ8 f17 f18 => ?_)
  rcases f18 with ⟨_, e⟩ | ⟨_, _, e⟩
  · exact absurd s10 e
  · rw [s11] at e
    exact hQ τ8 S e s1 s2 s3 s4 s5 s6 s7 (hC7.trans (f17.hi (fun n hn => by unfold ovS inR tmR at hn; omega) (fun p hp => by unfold ovD at hp; omega)))
