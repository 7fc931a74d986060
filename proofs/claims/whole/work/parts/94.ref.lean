/-! PURE: the reference's makeChain -/
theorem cnt_pst {c : Row} (h9 : ∀ i, 9 ≤ i → c i = 0) (i : Nat) : c i = ((cnt c : Nat) : Int) * pst c i := by
  unfold pst
  rw [Int.mul_tdiv_cancel' (cnt_dvd h9 i)]
theorem pst9 {c : Row} (h9 : ∀ i, 9 ≤ i → c i = 0) {i : Nat} (hi : 9 ≤ i) : pst c i = 0 := by
  unfold pst
  rw [h9 i hi, Int.zero_tdiv]
theorem pst_pp (c : Row) (i : Nat) : pst c i = if lc c < 0 then -(ppos c i) else ppos c i := by
  unfold pst ppos
  by_cases h : lc c < 0
  · rw [if_pos h, if_pos h]
    omega
  · rw [if_neg h, if_neg h]
theorem lc_prop {c d : Row} {a b : Int} (ha : 0 < a) (hb : 0 < b) (h : ∀ i, a * c i = b * d i) : (lc c < 0 ↔ lc d < 0) := by
  have hP : Pp c d := ⟨a, b, ha, hb, h⟩
  have hd := hP.dle
  by_cases e : dl c = 0
  · unfold lc
    rw [if_pos e, if_pos (by omega)]
  · rw [lc_eq e, lc_eq (by omega), ← hd]
    have := h (dl c - 1)
    constructor
    · intro h1
      have h2 := Int.mul_neg_of_pos_of_neg ha h1
      rcases Int.lt_or_le (d (dl c - 1)) 0 with e2 | e2
      · exact e2
      · have := Int.mul_nonneg (Int.le_of_lt hb) e2
        omega
    · intro h1
      have h2 := Int.mul_neg_of_pos_of_neg hb h1
      rcases Int.lt_or_le (c (dl c - 1)) 0 with e2 | e2
      · exact e2
      · have := Int.mul_nonneg (Int.le_of_lt ha) e2
        omega
theorem pst_prop {c d : Row} {a b : Int} (hc9 : ∀ i, 9 ≤ i → c i = 0) (hd9 : ∀ i, 9 ≤ i → d i = 0) (hc : dl c ≠ 0) (ha : 0 < a) (hb : 0 < b) (h : ∀ i, a * c i = b * d i) : pst c = pst d := by
  have hP : Pp c d := ⟨a, b, ha, hb, h⟩
  have hpp := hP.pp hc9 hd9 hc
  have hl := lc_prop ha hb h
  funext i
  rw [pst_pp, pst_pp, hpp]
  by_cases e : lc c < 0
  · rw [if_pos e, if_pos (hl.mp e)]
  · rw [if_neg e, if_neg (fun z => e (hl.mpr z))]
theorem cntN_neg (c : Row) (n : Nat) : cntN (fun i => -(c i)) n = cntN c n := by
  induction n with
  | zero => rfl
  | succ n ih =>
    show Nat.gcd (cntN (fun i => -(c i)) n) (-(c n)).natAbs = Nat.gcd (cntN c n) (c n).natAbs
    rw [ih, Int.natAbs_neg]
theorem pst_neg (c : Row) (i : Nat) : pst (fun i => -(c i)) i = -(pst c i) := by
  unfold pst
  have : cnt (fun i => -(c i)) = cnt c := cntN_neg c 9
  rw [this]
  exact Int.neg_tdiv ..
theorem pst_abs {c : Row} (h9 : ∀ i, 9 ≤ i → c i = 0) (h : dl c ≠ 0) (i : Nat) : (pst c i).natAbs ≤ (c i).natAbs := by
  have h1 := cnt_pst h9 i
  have h2 := cnt_ne h
  rw [h1, Int.natAbs_mul, Int.natAbs_natCast]
  exact Nat.le_mul_of_pos_left _ (by omega)
/-- a chain whose rows are divided by factors above 0 -/
theorem scp_sc {L M : Nat → Row} {l : Nat} (hS : SCp L l) (h : ∀ i, i ≤ l → ∃ t : Int, 0 < t ∧ ∀ m, L i m = t * M i m) : SCp M l := by
  have hP : ∀ i, i ≤ l → Pp (L i) (M i) := fun i hi => by
    obtain ⟨t, ht, h2⟩ := h i hi
    exact ⟨1, t, by omega, ht, fun m => by rw [Int.one_mul]; exact h2 m⟩
  refine ⟨fun i hi => ⟨?_, fun m hm => (hP i hi).z ((hS.1 i hi).2 m hm)⟩, fun i h1 h2 => ?_⟩
  · rw [← (hP i hi).dle]
    exact (hS.1 i hi).1
  · obtain ⟨d, u, s, q, n, hu, hs, he⟩ := hS.2 i h1 h2
    obtain ⟨t0, ht0, e0⟩ := h (i - 1) (by omega)
    obtain ⟨t1, ht1, e1⟩ := h i (by omega)
    obtain ⟨t2, ht2, e2⟩ := h (i + 1) (by omega)
    refine ⟨by rw [← (hP i (by omega)).dle, ← (hP (i + 1) (by omega)).dle]; exact d, u * t0, s * t2, fun j => t1 * q j, n, Int.mul_pos hu ht0, Int.mul_pos hs ht2, fun m => ?_⟩
    rw [pm_mul, ← pm_mulR, ← show L i = (fun j => t1 * M i j) from funext e1, ← he m, e0 m, e2 m]
    grind
theorem sce_sc {L M : Nat → Row} {l : Nat} (hE : SCe L l) (h : ∀ i, i ≤ l → ∃ t : Int, 0 < t ∧ ∀ m, L i m = t * M i m) : SCe M l := by
  obtain ⟨u, q, n, hu, he⟩ := hE
  obtain ⟨t0, ht0, e0⟩ := h (l - 1) (by omega)
  obtain ⟨t1, ht1, e1⟩ := h l (by omega)
  refine ⟨u * t0, fun j => t1 * q j, n, Int.mul_pos hu ht0, fun m => ?_⟩
  rw [pm_mul, ← pm_mulR, ← show L l = (fun j => t1 * M l j) from funext e1, ← he m, e0 m]
  grind
def Cz (ρ ρ' : RS) (S D : Nat → Prop) : Prop := (∀ n, ¬ S n → (∀ k, k < 440 → lm ρ' n k = lm ρ n k) ∧ rS ρ' n = rS ρ n ∧ rG ρ' n = rG ρ n) ∧ (∀ p, ¬ D p → rD ρ' p = rD ρ p) ∧ rH ρ' = rH ρ ∧ ∀ k, k ≠ 4 → rK ρ' k = rK ρ k
def loS (n : Nat) : Prop := 72 ≤ n
def loD (p : Nat) : Prop := 8 ≤ p
theorem Cq.cz {ρ ρ' : RS} {S D : Nat → Prop} (h : Cq ρ ρ' S D) (h1 : ∀ n, S n → 72 ≤ n) (h2 : ∀ p, D p → 8 ≤ p) : Cz ρ ρ' loS loD := ⟨fun n hn => h.1 n (fun z => hn (h1 n z)), fun p hp => h.2.1 p (fun z => hp (h2 p z)), h.2.2.1, fun k _ => by rw [h.2.2.2]⟩
theorem Cz.refl (ρ : RS) : Cz ρ ρ loS loD := (Cq.refl ρ loS loD).cz (fun _ z => z) (fun _ z => z)
theorem Cz.trans {ρ ρ1 ρ2 : RS} {S D : Nat → Prop} (h1 : Cz ρ ρ1 S D) (h2 : Cz ρ1 ρ2 S D) : Cz ρ ρ2 S D := ⟨fun n hn => ⟨fun k hk => ((h2.1 n hn).1 k hk).trans ((h1.1 n hn).1 k hk), (h2.1 n hn).2.1.trans (h1.1 n hn).2.1, (h2.1 n hn).2.2.trans (h1.1 n hn).2.2⟩, fun p hp => (h2.2.1 p hp).trans (h1.2.1 p hp), h2.2.2.1.trans h1.2.2.1, fun k hk => (h2.2.2.2 k hk).trans (h1.2.2.2 k hk)⟩
theorem rK_wK (ρ : RS) (k j : Nat) (v : Int32) : rK (wK ρ k v) j = if j = k then v else rK ρ j := by
  show va_up ρ.2.2.2.2.2 k v j = _
  unfold va_up
  rfl
theorem cz_wK (ρ : RS) (v : Int32) : Cz ρ (wK ρ 4 v) loS loD := ⟨fun _ _ => ⟨fun _ _ => rfl, rfl, rfl⟩, fun _ _ => rfl, rfl, fun k hk => by rw [rK_wK, if_neg hk]⟩
theorem PR.wK {ρ : RS} {p k : Nat} {c : Row} {v : Int32} (h : PR ρ p c) : PR (wK ρ k v) p c := h
theorem hi_cz {ρ ρ' : RS} (h : Cq ρ ρ' hiS hiD) : Cz ρ ρ' loS loD := h.cz (fun n hn => by unfold hiS at hn; omega) (fun p hp => by unfold hiD at hp; omega)
/-- what the reference's chain holds -/
def RCh (S : Row) (l : Nat) (M : Nat → Row) : Prop := M 0 = S ∧ (∀ i, i ≤ l → dl (M i) ≠ 0 ∧ ∀ m, 9 ≤ m → M i m = 0) ∧ (∀ i, i ≤ l → ∀ m, (M i m).natAbs < 2147483648 ^ 100) ∧ ((dl S = 1 ∧ l = 0) ∨ (2 ≤ dl S ∧ 1 ≤ l ∧ SCp M l ∧ SCe M l ∧ Pp (M 1) (dv S)))
def ChF (S : Row) (τ : RS) : Prop := ∃ (l : Nat) (M : Nat → Row), l ≤ 8 ∧ rK τ 4 = nI (l + 1) ∧ (∀ i, i ≤ l → PR τ (8 + i) (M i)) ∧ RCh S l M
/-- the chain on its way -/
def ChJ (S : Row) (τ : RS) : Prop := ∃ (R l : Nat) (L M : Nat → Row) (a b g h : Nat), 1 ≤ l ∧ b + l ≤ 8 ∧ PG R (dl S - 1) (dl (dv S) - 1) S (dv S) ∧ SCp L l ∧ L 0 = S ∧ L 1 = dv S ∧ PI R (dl S - 1) (dl (dv S) - 1) S (dv S) (L (l - 1)) (L l) (l = 1) a b g h ∧ M 0 = S ∧ (∀ i, i ≤ l → ∃ t : Int, 0 < t ∧ ∀ m, L i m = t * M i m) ∧ (∀ i, i ≤ l → ∀ m, (M i m).natAbs < 2147483648 ^ 100) ∧ rK τ 4 = nI (l + 1) ∧ ∀ i, i ≤ l → PR τ (8 + i) (M i)
theorem chj_fin {S : Row} {τ τ' : RS} {l : Nat} {L M : Nat → Row} (hl : 1 ≤ l) (hl8 : l ≤ 8) (h2 : 2 ≤ dl S) (hS : SCp L l) (hE : SCe L l) (hL1 : L 1 = dv S) (hM0 : M 0 = S) (ht : ∀ i, i ≤ l → ∃ t : Int, 0 < t ∧ ∀ m, L i m = t * M i m) (hMb : ∀ i, i ≤ l → ∀ m, (M i m).natAbs < 2147483648 ^ 100) (hK : rK τ' 4 = nI (l + 1)) (hP : ∀ i, i ≤ l → PR τ' (8 + i) (M i)) : ChF S τ' := by
  have hSM := scp_sc hS ht
  refine ⟨l, M, hl8, hK, hP, hM0, hSM.1, hMb, Or.inr ⟨h2, hl, hSM, sce_sc hE ht, ?_⟩⟩
  obtain ⟨t, ht0, ht1⟩ := ht 1 hl
  rw [← hL1]
  exact ⟨t, 1, ht0, by omega, fun m => by rw [Int.one_mul]; exact (ht1 m).symm⟩
theorem i32_8 (l : Nat) (h : l ≤ 20) : (8 : Int32) + nI l = nI (8 + l) := by rw [show (8 : Int32) = nI 8 from rfl, nI_add]
theorem sp_rchain {p : Nat} {c : Row} {ρ : RS} {Q : RS → Prop} (hp : p < 8) (hc : PR ρ p c) (h0 : dl c ≠ 0) (hb : ∀ i, (c i).natAbs < 2147483648 ^ 6)
    (hQ : ∀ ρ' S, Once c S → cnt S = 1 → 0 < lc S → ChF S ρ' → Cz ρ ρ' loS loD → Q ρ') : wpX5_makeChain (nI p) ρ Q := by
  show wpX5_makeChain_0 (nI p) Q ρ
  unfold wpX5_makeChain_0
  refine sp_ronce hp hc h0 hb (fun τ1 S s0 s1 s2 s3 s4 s5 s6 s7 s8 => ?_)
  have hC1 := hi_cz s8
  refine sp_rcopyAll (p := 21) (q := 8) (by omega) (by omega) (by omega) s0 (fun τ2 f1 f2 => ?_)
  have hC2 := hC1.trans (f2.cz (fun n hn => by unfold inR at hn; omega) (fun p hp => by omega))
  refine sp_rderive (p := 8) (q := 9) (by omega) (by omega) (by omega) f1 (fun i => ?_) (fun τ3 f3 f4 => ⟨pk_in 9 _ (by omega), ?_⟩)
  · have := s7 i
    have h1 : (S i).natAbs * 16 < 2147483648 ^ 8 * 16 := by omega
    exact Nat.lt_trans h1 (by decide +kernel)
  have hC3 := hC2.trans (f4.cz (fun n hn => by unfold dvS2 inR tmR at hn; omega) (fun p hp => by omega))
  have f5 : PR τ3 8 S := f1.cq f4 (fun n hn => by unfold inR at hn; unfold dvS2 inR tmR; omega) (by omega)
  have hdv := dl_dv s2
  have c9 : (9 : Int32).toNatClampNeg = 9 := by decide
  rw [c9, f3.2.2, deg_nn (dl_le _)]
  unfold wpX5_makeChain_40 wpX5_makeChain_54
  have r2 : rK (wK τ3 4 (2 : Int32)) 4 = 2 := by rw [rK_wK, if_pos rfl]
  have r1 : rK (wK τ3 4 (1 : Int32)) 4 = 1 := by rw [rK_wK, if_pos rfl]
  rw [r1, r2]
  -- the loop
  have loop : ∀ i2 τ, ((i2 = 1 ∧ 2 ≤ dl S ∧ ChJ S τ) ∨ (i2 = 0 ∧ ChF S τ)) → Cz ρ τ loS loD → ∃ n, lq2 (wbX5_makeChain_65 (nI p) Q) n i2 τ := by
    intro i2 τ t1 t2
    refine lq2_i (I := fun i2 τ => ((i2 = 1 ∧ 2 ≤ dl S ∧ ChJ S τ) ∨ (i2 = 0 ∧ ChF S τ)) ∧ Cz ρ τ loS loD) (μ := fun i2 τ => i2.toNatClampNeg * 20 - (rK τ 4).toNatClampNeg) ?_ _ _ ⟨t1, t2⟩
    clear t1 t2 τ i2
    rintro N i2 τ ⟨hcase, hC⟩ hN
    unfold wbX5_makeChain_65
    rcases hcase with ⟨rfl, hS2, R, l, L, M, a, b, g, h, hl, hbl, hG, hSC, hL0, hL1, hI, hM0, ht, hMb, hK, hP⟩ | ⟨rfl, hF⟩
    rotate_left
    · exact ⟨fun _ => hQ τ S s1 s4 s5 hF hC, fun h => absurd rfl h⟩
    refine ⟨fun h => absurd h (by decide), fun _ => ?_⟩
    have hl8 : l ≤ 8 := by omega
    have hI' := hI
    obtain ⟨⟨hA9, hB9, hda, hdb, hba, hlt, hbn1, han1⟩, hSI, hbd⟩ := hI'
    have hdM : ∀ i, i ≤ l → dl (M i) = dl (L i) := fun i hi => by
      obtain ⟨t, ht0, ht1⟩ := ht i hi
      exact (Pp.dle ⟨t, 1, ht0, by omega, fun m => by rw [Int.one_mul]; exact (ht1 m).symm⟩)
    have e1 : (8 : Int32) + nI (l + 1) - 1 = nI (8 + l) := by
      rw [i32_8 _ (by omega), show (1 : Int32) = nI 1 from rfl, pk_sub (by omega), show 8 + (l + 1) - 1 = 8 + l by omega]
    have e2 : (8 : Int32) + nI (l + 1) - 2 = nI (8 + (l - 1)) := by
      rw [i32_8 _ (by omega), show (2 : Int32) = nI 2 from rfl, pk_sub (by omega), show 8 + (l + 1) - 2 = 8 + (l - 1) by omega]
    rw [hK, e1, e2, nI_clamp (by omega), (hP l (Nat.le_refl _)).2.2, hdM l (Nat.le_refl _), hdb, nI_pred, pos32 b (by omega)]
    have hBb : L l b ≠ 0 := by
      have : L l (dl (L l) - 1) ≠ 0 := ln_top (show dl (L l) ≠ 0 by omega)
      rw [hdb, Nat.add_sub_cancel] at this
      exact this
    have hBz : ∀ m, b < m → L l m = 0 := fun m hm => dl_zero hB9 (by omega)
    refine ⟨pk_in (8 + l) _ (by omega), fun hb0 => hQ τ S s1 s4 s5 (chj_fin (τ := τ) hl hl8 hS2 hSC (sce_const hA9 (fun m hm => hBz m (by omega)) (by rw [hb0] at hBb; exact hBb)) hL1 hM0 ht hMb hK hP) hC, fun hb0 => ?_⟩
    refine sp_rcopyAll (p := 8 + (l - 1)) (q := 18) (by omega) (by omega) (by omega) (hP (l - 1) (by omega)) (fun τ4 k1 k2 => ?_)
    have hPk : ∀ i, i ≤ l → PR τ4 (8 + i) (M i) := fun i hi => (hP i hi).cp k2 (by omega)
    have hK4 : rK τ4 4 = nI (l + 1) := by rw [k2.2.2.2]; exact hK
    rw [hK4, e1]
    refine sp_rcopyAll (p := 8 + l) (q := 19) (by omega) (by omega) (by omega) (hPk l (Nat.le_refl _)) (fun τ5 k3 k4 => ?_)
    have k5 : PR τ5 18 (M (l - 1)) := k1.cp k4 (by omega)
    have hC5 : Cq τ τ5 hiS hiD := (cp_hi (by omega) k2).trans (cp_hi (by omega) k4)
    obtain ⟨tA, htA, hLA⟩ := ht (l - 1) (by omega)
    obtain ⟨tB, htB, hLB⟩ := ht l (Nat.le_refl _)
    have hMA : ∀ m, (M (l - 1) m).natAbs ≤ (L (l - 1) m).natAbs := fun m => by
      rw [hLA m, Int.natAbs_mul]
      exact Nat.le_mul_of_pos_left _ (by omega)
    have hMB : ∀ m, (M l m).natAbs ≤ (L l m).natAbs := fun m => by
      rw [hLB m, Int.natAbs_mul]
      exact Nat.le_mul_of_pos_left _ (by omega)
    obtain ⟨X, Y, x1, x2, x3⟩ := pi_bd hG hI (by omega)
    have hsteps : dl (M (l - 1)) + 1 - dl (M l) = a - b + 1 := by rw [hdM l (Nat.le_refl _), hdM (l - 1) (by omega)]; omega
    have hMl1 : dl (M l) - 1 = b := by rw [hdM l (Nat.le_refl _)]; omega
    refine sp_rremain k5 k3 (by rw [hdM l (Nat.le_refl _)]; omega) (fun m => Nat.le_trans (hMA m) (x1 m)) (fun m => Nat.le_trans (hMB m) (x2 m)) (by rw [hsteps]; exact p299l x3) (fun τ6 k6 k7 => ⟨pk_in 20 _ (by omega), ?_⟩)
    unfold remF at k6
    rw [if_neg (by decide), hsteps, hMl1] at k6
    have hC6 : Cq τ τ6 hiS hiD := hC5.trans (rm_hi k7)
    have hP6 : ∀ i, i ≤ l → PR τ6 (8 + i) (M i) := fun i hi => (hP i hi).low hC6 (by omega)
    have hK6 : rK τ6 4 = nI (l + 1) := by rw [hC6.2.2.2]; exact hK
    have hCz6 := hC.trans (hi_cz hC6)
    have hMbb : M l b ≠ 0 := fun e => hBb (by rw [hLB b, e, Int.mul_zero])
    have hsc : ∀ m, red (L l) b (a - b + 1) (L (l - 1)) m = ((tB.natAbs : Int) ^ (a - b + 1) * tA) * red (M l) b (a - b + 1) (M (l - 1)) m := fun m => by
      have h3 := congrFun (red_sc (y := M l) (d := b) (t := tB) (by omega) hMbb (a - b + 1) tA (M (l - 1))) m
      rw [← show L l = (fun i => tB * M l i) from funext hLB, ← show L (l - 1) = (fun i => tA * M (l - 1) i) from funext hLA] at h3
      exact h3
    have hkk : 0 < (tB.natAbs : Int) ^ (a - b + 1) * tA := Int.mul_pos (Int.pow_pos (by omega)) htA
    generalize (tB.natAbs : Int) ^ (a - b + 1) * tA = K at hsc hkk
    generalize hWd : red (M l) b (a - b + 1) (M (l - 1)) = W at *
    have c20 : (20 : Int32).toNatClampNeg = 20 := by decide
    have hmu : ∀ τ', rK τ' 4 = nI (l + 2) → (1 : Int32).toNatClampNeg * 20 - (rK τ' 4).toNatClampNeg < (1 : Int32).toNatClampNeg * 20 - (rK τ 4).toNatClampNeg := by
      intro τ' e
      have h1 : (1 : Int32).toNatClampNeg = 1 := by decide
      rw [e, hK, nI_clamp (by omega), nI_clamp (by omega), h1]
      omega
    have hmu0 : ∀ τ', (0 : Int32).toNatClampNeg * 20 - (rK τ' 4).toNatClampNeg < (1 : Int32).toNatClampNeg * 20 - (rK τ 4).toNatClampNeg := by
      intro τ'
      have h1 : (1 : Int32).toNatClampNeg = 1 := by decide
      have h2 : (0 : Int32).toNatClampNeg = 0 := by decide
      rw [hK, nI_clamp (by omega), h1, h2]
      omega
    rw [c20, dlr k6]
    unfold wpX5_makeChain_137
    refine ⟨fun hz => ⟨fun _ => ?_, fun h => absurd rfl h⟩, fun hz => ⟨fun h => absurd h (by decide), fun _ => ?_⟩⟩
    · refine hN _ _ ⟨Or.inr ⟨rfl, chj_fin (τ := τ) hl hl8 hS2 hSC (sce_red (b := b) (k := a - b + 1) hBb (fun m => ?_)) hL1 hM0 ht hMb hK6 hP6⟩, hCz6⟩ (hmu0 _)
      rw [hsc m, dl_zero k6.2.1 (show dl W ≤ m by omega), Int.mul_zero]
    · rcases pi_step hG hI (by omega) with hz0 | ⟨C, c', g', h', β, hβ, hCW, hcb, hPI⟩
      · exfalso
        have h3 : W (dl W - 1) ≠ 0 := ln_top hz
        have := hsc (dl W - 1)
        rw [hz0] at this
        exact Int.mul_ne_zero (by omega) h3 this.symm
      have hC9 := hPI.1.2.1
      have hdC := hPI.1.2.2.2.1
      -- the next row
      have hneg9 : ∀ i, 9 ≤ i → -(W i) = 0 := fun i hi => by rw [k6.2.1 i hi]; rfl
      have hpst : pst (fun i => -(W i)) = pst C := by
        refine pst_prop (a := K) (b := β) hneg9 hC9 (by rw [dl_neg]; exact hz) hkk hβ (fun i => ?_)
        have h3 := hsc i
        rw [hCW i] at h3
        show K * -(W i) = β * C i
        rw [Int.mul_neg, ← h3, Int.neg_mul]
        omega
      have hnew : ∀ i, -(pst W i) = pst C i := fun i => by
        rw [← hpst, pst_neg]
      have hcC := cnt_ne (c := C) (by omega)
      refine sp_rmkPrim (p := 20) (by omega) k6 hz (fun τ7 k8 k9 => ?_)
      rw [if_neg (by decide)] at k8
      have hC7 : Cq τ τ7 hiS hiD := hC6.trans (mp_hi (by omega) k9)
      have hK7 : rK τ7 4 = nI (l + 1) := by rw [hC7.2.2.2]; exact hK
      rw [hK7, i32_8 _ (by omega)]
      refine sp_rcopyAll (p := 20) (q := 8 + (l + 1)) (by omega) (by omega) (by omega) k8 (fun τ8 k10 k11 => ?_)
      have hP8 : ∀ i, i ≤ l → PR τ8 (8 + i) (M i) := fun i hi => ((hP i hi).low hC7 (by omega)).cp k11 (by omega)
      have k12 : PR τ8 20 (pst W) := k8.cp k11 (by omega)
      have hK8 : rK τ8 4 = nI (l + 1) := by rw [k11.2.2.2]; exact hK7
      have hC8 : Cz ρ τ8 loS loD := (hC.trans (hi_cz hC7)).trans (k11.cz (fun n hn => by unfold inR at hn; omega) (fun p hp => by omega))
      refine lq3_i (I := fun i2 i3 τ' => i2 = 1 ∧ ∃ k, k ≤ 9 ∧ i3 = nI k ∧ (∀ i, i < 9 → RpR τ' (9 * (8 + (l + 1)) + i) (if i < k then -(pst W i) else pst W i)) ∧ Cq τ8 τ' (inR (8 + (l + 1))) (fun _ => False)) (μ := fun _ i3 _ => 9 - i3.toNatClampNeg) ?_ _ _ _ ⟨rfl, 0, by omega, rfl, fun i hi => by rw [if_neg (by omega)]; exact k10.1 i hi, Cq.refl _ _ _⟩
      rintro N163 i2 i3 τ9 ⟨rfl, k, hk, rfl, hL, hC9'⟩ hN163
      have hK9 : rK τ9 4 = nI (l + 1) := by rw [hC9'.2.2.2]; exact hK8
      unfold wbX5_makeChain_163
      rw [hK9, i32_8 _ (by omega), nI_1]
      refine pk_le 9 k (fun h1 => ?_) (fun h1 => ?_) rfl rfl (by omega) (by omega)
      · have : k = 9 := by omega
        subst this
        have hPn : PR τ9 (8 + (l + 1)) (pst C) := by
          refine ⟨fun i hi => ?_, fun i hi => pst9 hC9 hi, ?_⟩
          · have := hL i hi
            rw [if_pos hi, hnew i] at this
            exact this
          · rw [hC9'.2.1 _ (fun z => z), k10.2.2]
            have : dl (pst C) = dl (pst W) := by
              rw [← dl_neg (pst W)]
              congr 1
              exact (funext hnew).symm
            rw [this]
        have hPo : ∀ i, i ≤ l → PR τ9 (8 + i) (M i) := fun i hi => (hP8 i hi).cq hC9' (fun n hn => by unfold inR at hn; unfold inR; omega) (fun z => z)
        refine hN _ _ ⟨Or.inl ⟨rfl, hS2, R, l + 1, lset L (l + 1) C, lset M (l + 1) (pst C), b, c', g', h', by omega, by omega, hG, scp_ext hl hSC hBz hBb hβ hCW hC9 (by omega) (by omega), by rw [lset_n (by omega)]; exact hL0, by rw [lset_n (by omega)]; exact hL1, ?_, by rw [lset_n (by omega)]; exact hM0, fun i hi => ?_, fun i hi m => ?_, by rw [rK_wK, if_pos rfl], fun i hi => ?_⟩, (hC8.trans (hC9'.cz (fun n hn => by unfold inR at hn; omega) (fun p hp => hp.elim))).trans (cz_wK _ _)⟩ (hmu _ (by rw [rK_wK, if_pos rfl]))
        · rw [Nat.add_sub_cancel, lset_n (by omega), lset_e, show (l + 1 = 1) = False from eq_false (by omega)]
          exact hPI
        · by_cases e : i = l + 1
          · rw [e, lset_e, lset_e]
            exact ⟨((cnt C : Nat) : Int), by omega, fun m => cnt_pst hC9 m⟩
          · rw [lset_n e, lset_n e]
            exact ht i (by omega)
        · by_cases e : i = l + 1
          · rw [e, lset_e]
            exact Nat.lt_of_le_of_lt (pst_abs hC9 (by omega) m) (pi_lb hG hPI m)
          · rw [lset_n e]
            exact hMb i (by omega) m
        · by_cases e : i = l + 1
          · rw [e, lset_e]
            exact hPn
          · rw [lset_n e]
            exact hPo i (by omega)
      · rw [at_eq, at_eq, show (20 : Int32) = nI 20 from rfl, ia, ia, nI_clamp (by omega)]
        have hg20 : rG τ9 (9 * 20 + k) = sg32 (pst W k) := ((k12.1 k h1).cq hC9' (by unfold inR; omega)).sg
        rw [hg20, ← sg32_neg]
        refine ⟨pk_in (180 + k) _ (by omega), pk_in (9 * (8 + (l + 1)) + k) _ (by omega), fun a5 ha5 => ?_⟩
        subst ha5
        have hk9 := hL k h1
        rw [if_neg (by omega)] at hk9
        have j1 := hk9.wG (z := -(pst W k)) (by omega) (Int.natAbs_neg _) rfl
        have j2 := cr_wG (ρ := τ9) (t := 9 * (8 + (l + 1)) + k) (by omega) (sg32 (-(pst W k)))
        refine hN163 _ _ _ ⟨rfl, k + 1, by omega, nI_1 k, fun i hi => ?_, hC9'.trans (Cr.pq j2 h1 _)⟩ ?_
        · by_cases e : i = k
          · subst e
            rw [if_pos (by omega)]
            exact j1
          · have := (hL i hi).cr j2 (by omega)
            by_cases e3 : i < k
            · rw [if_pos (by omega)]
              rw [if_pos e3] at this
              exact this
            · rw [if_neg (by omega)]
              rw [if_neg e3] at this
              exact this
        · show 9 - (nI k + 1).toNatClampNeg < 9 - (nI k).toNatClampNeg
          rw [nI_1, nI_clamp (by omega), nI_clamp (by omega)]
          omega
  have hS8 : ∀ i, (S i).natAbs < 2147483648 ^ 100 := fun i => Nat.lt_of_lt_of_le (s7 i) (Nat.pow_le_pow_right (by omega) (by omega))
  refine ⟨fun hd => ⟨fun h => absurd rfl h, fun _ => ⟨fun h => absurd h (by decide), fun _ => ?_⟩⟩, fun hd => ⟨fun _ => ⟨fun _ => ?_, fun h => absurd rfl h⟩, fun h => absurd h (by decide)⟩⟩
  · refine sp_rmkPrim (p := 9) (by omega) (f3.wK (k := 4) (v := 2)) hd (fun τ4 k1 k2 => ?_)
    rw [if_neg (by decide)] at k1
    have hC4 : Cz ρ τ4 loS loD := (hC3.trans (cz_wK _ _)).trans (k2.cz (fun n hn => by unfold mpS inR tmR at hn; omega) (fun p hp => hp.elim))
    have hK4 : rK τ4 4 = nI 2 := by rw [k2.2.2.2, rK_wK, if_pos rfl]; rfl
    have k3 : PR τ4 8 S := (f5.wK (k := 4) (v := 2)).mp k2 (by omega) (by omega)
    obtain ⟨R, hR⟩ := s6 (by omega)
    have hdle := dl_le S
    have hcd := cnt_ne hd
    refine loop 1 τ4 (Or.inl ⟨rfl, by omega, R, 1, fun i => if i = 0 then S else dv S, fun i => if i = 0 then S else pst (dv S), dl S - 1, dl (dv S) - 1, 1, 1, Nat.le_refl _, by omega, hR, ⟨fun i hi => ?_, fun i h1 h2 => absurd h1 (by omega)⟩, rfl, rfl, pi_start hR _ rfl, rfl, fun i hi => ?_, fun i hi m => ?_, hK4, fun i hi => ?_⟩) hC4
    · rcases (show i = 0 ∨ i = 1 by omega) with e | e
      · subst e
        exact ⟨by show dl S ≠ 0; omega, s2⟩
      · subst e
        exact ⟨by show dl (dv S) ≠ 0; omega, dv9 s2⟩
    · rcases (show i = 0 ∨ i = 1 by omega) with e | e
      · subst e
        exact ⟨1, by omega, fun m => by show S m = 1 * S m; rw [Int.one_mul]⟩
      · subst e
        exact ⟨((cnt (dv S) : Nat) : Int), by omega, fun m => cnt_pst (dv9 s2) m⟩
    · rcases (show i = 0 ∨ i = 1 by omega) with e | e
      · subst e
        exact hS8 m
      · subst e
        show (pst (dv S) m).natAbs < _
        refine Nat.lt_of_le_of_lt (pst_abs (dv9 s2) hd m) ?_
        exact pi_lb hR (pi_start hR True trivial) m
    · rcases (show i = 0 ∨ i = 1 by omega) with e | e
      · subst e
        exact k3
      · subst e
        exact k1
  · refine loop 0 _ (Or.inr ⟨rfl, 0, fun _ => S, by omega, by rw [rK_wK, if_pos rfl]; rfl, fun i hi => ?_, rfl, fun _ _ => ⟨s3, s2⟩, fun _ _ m => hS8 m, Or.inl ⟨by omega, rfl⟩⟩) (hC3.trans (cz_wK _ _))
    have : i = 0 := by omega
    subst this
    exact f5
