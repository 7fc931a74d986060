/-! PURE: build -/
def BI (σ τ : CS) (R n0 n1 : Nat) (P0 P1 : Row) (l : Nat) (L : Nat → Row) (a b g h : Nat) : Prop :=
  (cK τ 0 = nI l ∧ 1 ≤ l ∧ l ≤ 9 ∧ L 0 = P0 ∧ L 1 = P1 ∧ (∀ i, i ≤ l → Pl τ (10 + i) (L i)) ∧ SCp L l ∧ Cx σ τ kS kD) ∧
  (dl (L (l - 1)) = a + 1 ∧ dl (L l) = b + 1 ∧ b ≤ a ∧ b + l ≤ 9 ∧ (l ≠ 1 → b < a) ∧ b ≤ n1 ∧ (1 < l → a ≤ n1)) ∧
  (RpW τ 324 g ∧ RpW τ 325 h ∧ SI n0 n1 P0 P1 (L (l - 1)) (L l) a b g h) ∧
  ∃ al be, (∀ m, (L (l - 1) m).natAbs ≤ R ^ al) ∧ (∀ m, (L l m).natAbs ≤ R ^ be) ∧ (al ≤ 1 ∨ al + 2 * a ≤ n0 + n1) ∧ (be ≤ 1 ∨ be + 2 * a ≤ n0 + n1 + 2) ∧ (l = 1 → be ≤ 1)
def lset (L : Nat → Row) (k : Nat) (C : Row) (i : Nat) : Row := if i = k then C else L i
theorem lset_e (L : Nat → Row) (k : Nat) (C : Row) : lset L k C k = C := if_pos rfl
theorem lset_n {L : Nat → Row} {k i : Nat} {C : Row} (h : i ≠ k) : lset L k C i = L i := if_neg h
theorem tl_link {l : Nat} (h : 1 ≤ l) (h2 : l ≤ 9) : tlen (10 + l) = min 9 (10 - l) := by unfold tlen; omega
theorem dl_of {c : Nat → Int} {i : Nat} (hi : i < 9) (h : c i ≠ 0) : dl c ≠ 0 := fun e => h (ln_zero (show ln c 9 ≤ i by have : ln c 9 = 0 := e; omega) hi)
theorem sp_build_body {R n0 n1 l a b g h : Nat} {P0 P1 : Row} {L : Nat → Row} {σ τ : CS} {Q N : CS → Prop} (hroom : roomR R (n0 + n1)) (hR1 : 1 ≤ R) (hn01 : n1 ≤ n0) (hn0 : n0 ≤ 8) (hP09 : ∀ m, 9 ≤ m → P0 m = 0) (hP19 : ∀ m, 9 ≤ m → P1 m = 0) (hX : ns P0 9 ≤ R) (hY : ns P1 9 ≤ R)
    (hI : BI σ τ R n0 n1 P0 P1 l L a b g h)
    (hfin : ∀ τ', (∀ i, i ≤ l → Pl τ' (10 + i) (L i)) → cK τ' 0 = nI l → SCe L l → Cx σ τ' kS kD → Q τ')
    (hN : ∀ τ' L' c g' h', BI σ τ' R n0 n1 P0 P1 (l + 1) L' b c g' h' → N τ') : wbX1_build_19 Q N τ := by
  obtain ⟨⟨hK, hl1, hl9, hL0, hL1, hP, hSC, hCx⟩, ⟨hda, hdb, hba, hbl, hlt, hbn1, han1⟩, ⟨hg, hh, hSI⟩, al, be, hal, hbe, hnal, hnbe, hbe1⟩ := hI
  have hA9 : ∀ m, 9 ≤ m → L (l - 1) m = 0 := (hSC.1 (l - 1) (by omega)).2
  have hB9 : ∀ m, 9 ≤ m → L l m = 0 := (hSC.1 l (Nat.le_refl _)).2
  have hA : ∀ m, a < m → L (l - 1) m = 0 := fun m hm => dl_zero hA9 (by omega)
  have hB : ∀ m, b < m → L l m = 0 := fun m hm => dl_zero hB9 (by omega)
  have hBb : L l b ≠ 0 := by
    have : L l (dl (L l) - 1) ≠ 0 := ln_top (show dl (L l) ≠ 0 by omega)
    rw [hdb, Nat.add_sub_cancel] at this
    exact this
  have hlcB : lc (L l) = L l b := by rw [lc_eq (by omega), hdb, Nat.add_sub_cancel]
  have ha8 : a ≤ 8 := by
    have := dl_le (L (l - 1))
    omega
  have hdeg : nI (dl (L l)) - 1 = nI b := by rw [hdb, deg_s (by omega), Nat.add_sub_cancel]
  have hdegA : nI (dl (L (l - 1))) - 1 = nI a := by rw [hda, deg_s (by omega), Nat.add_sub_cancel]
  unfold wbX1_build_19
  rw [hK, nI_1, nI_clamp (by omega)]
  have hconst : b = 0 → SCe L l := fun e => sce_const hA9 (fun m hm => hB m (by omega)) (by rw [e] at hBb; exact hBb)
  refine pk_le 10 (l + 1) (fun hh1 => hfin τ hP hK (hconst (by omega)) hCx) (fun hh1 => ⟨pk_in l _ (by omega), ?_⟩) rfl rfl (by omega) (by omega)
  rw [(hP l (Nat.le_refl _)).2.2, hdeg, pos32 b (by omega)]
  refine ⟨fun hb0 => hfin τ hP hK (hconst hb0) hCx, fun hb0 => ?_⟩
  have hl0 : nI l - 1 = nI (l - 1) := deg_s (by omega)
  rw [hl0, nI_clamp (by omega), (hP (l - 1) (by omega)).2.2, hdegA]
  refine ⟨pk_in l _ (by omega), pk_in (l - 1) _ (by omega), fun a4 ha4 => ⟨pk_in (l - 1) _ (by omega), ?_⟩⟩
  rw [pk_sub hba] at ha4
  subst ha4
  have hsteps : dl (L (l - 1)) + 1 - dl (L l) = a - b + 1 := by omega
  have hwb := hroom.work hR1 hnal hnbe (show 1 ≤ b by omega) hba ha8
  have hb300 : ∀ i, (L (l - 1) i).natAbs < 2147483648 ^ 300 := fun i => Nat.lt_of_le_of_lt (Nat.le_trans (hal i) (le_mul_pow (by have : 1 ≤ R ^ be := Nat.pow_pos hR1; omega))) (lt_cap hwb (by omega))
  refine sp_loadWork (by omega) (hP (l - 1) (by omega)) hb300 (fun τ1 hW1 hC1 => ?_)
  have hPl1 : ∀ i, i ≤ l → Pl τ1 (10 + i) (L i) := fun i hi => (hP i hi).b hC1 (by omega) (by omega)
  refine sp_reduce (by omega) (by omega) hW1 (hPl1 l (Nat.le_refl _)) (by omega) hal hbe (by rw [hsteps]; exact hwb) (fun τ2 hW2 hC2 => ?_)
  rw [hsteps, show dl (L l) - 1 = b by omega] at hW2
  have hC12 := hC1.trans hC2
  have hPl2 : ∀ i, i ≤ l → Pl τ2 (10 + i) (L i) := fun i hi => (hP i hi).b hC12 (by omega) (by omega)
  have hCx2 := hCx.trans hC12.k
  have htop := si_top hSI hA hB hBb (by omega) hba
  have hWz : ∀ m, b ≤ m → red (L l) b (a - b + 1) (L (l - 1)) m = 0 := fun m hm => red_top hB (fun j hj => hA j (by omega)) hm
  have hWb : ∀ m, (red (L l) b (a - b + 1) (L (l - 1)) m).natAbs < 2147483648 ^ 299 := fun m => Nat.lt_of_le_of_lt (red_bd hbe hal m) hwb
  obtain ⟨q, hq⟩ := red_id (L l) b (a - b + 1) (L (l - 1))
  have hK2 : cK τ2 0 = nI l := by rw [hC12.2.2 0]; exact hK
  have hg2 : RpW τ2 324 g := hg.cg hC12 (by unfold bS inP; omega)
  have hh2 : RpW τ2 325 h := hh.cg hC12 (by unfold bS inP; omega)
  have hdW := dl_le (red (L l) b (a - b + 1) (L (l - 1)))
  have hu : (0 : Int) < ((L l b).natAbs : Int) ^ (a - b + 1) := Int.pow_pos (by omega)
  rw [hW2.2.2, deg_nn hdW]
  generalize hWdef : red (L l) b (a - b + 1) (L (l - 1)) = W at *
  refine ⟨fun hW0 => ?_, fun hW0 => hfin τ2 hPl2 hK2 ⟨((L l b).natAbs : Int) ^ (a - b + 1), q, a - b + 1, hu, fun m => by rw [hq m, dl_zero (fun i hi => hWz i (by omega)) (show dl W ≤ m by omega), Int.zero_add]⟩ hCx2⟩
  -- the factor
  have hWn : W (dl W - 1) ≠ 0 := ln_top hW0
  have hgh : g * h ^ (a - b) < 2147483648 ^ 299 := by
    refine Nat.lt_of_le_of_lt ?_ (hWb (dl W - 1))
    rw [htop (dl W - 1)]
    refine Nat.le_mul_of_pos_right _ (Nat.pos_of_ne_zero (fun e => hWn ?_))
    have := htop (dl W - 1)
    rw [e, Nat.mul_zero] at this
    omega
  have hbeta : 0 < g * h ^ (a - b) := Nat.mul_pos hSI.1 (Nat.pow_pos hSI.2.1)
  refine sp_load hg2 hg2.bd3 (fun τ3 hr3 hc3 => sp_raise (d := a - b) (p := g) (Or.inr rfl) (by omega) hr3 (hh2.ch hc3 (by omega)) (fun i hi => Nat.lt_of_le_of_lt (Nat.mul_le_mul_left _ (Nat.pow_le_pow_right hSI.2.1 hi)) hgh) (fun τ4 hr4 hc4 => ?_))
  have hC24 : Ch τ2 τ4 pS := (hc3.mono (fun w hw => Or.inl hw)).trans hc4
  have hW4 : Pl τ4 8 W := hW2.cg (hC24.cg (fun _ => False)) (fun w hw => by unfold inP at hw; unfold pS; omega) (fun z => z)
  have hdvd : ∀ i, ((g * h ^ (a - b) : Nat) : Int) ∣ W i := fun i => Int.ofNat_dvd_left.mpr (by rw [htop i]; exact Nat.dvd_mul_right _ _)
  refine sp_divideAll (by omega) (by omega) (by omega) hW4 hr4 hdvd (by omega) (fun τ5 hP5 hC5 => sp_pneg hP5 (fun τ6 hP6 hC6 => ?_))
  have hC26 : Cg τ2 τ6 (fun w => inP 8 w ∨ w = 322 ∨ pS w) (fun _ => False) := ((hC24.cg (fun _ => False)).mono (fun w hw => Or.inr (Or.inr hw)) (fun _ z => z)).trans ((hC5.mono (fun w hw => by rcases hw with hw | hw; exact Or.inl hw; exact Or.inr (Or.inl hw)) (fun _ z => z)).trans (hC6.mono (fun w hw => Or.inl hw) (fun _ z => z)))
  have hK6 : cK τ6 0 = nI l := by rw [hC26.2.2 0]; exact hK2
  rw [hK6, nI_1, nI_clamp (by omega)]
  generalize hCdef : (fun i => -((W i).tdiv ((g * h ^ (a - b) : Nat) : Int))) = C at *
  have hCW : ∀ m, W m = -((g * h ^ (a - b) : Nat) : Int) * C m := fun m => by
    rw [← hCdef]
    dsimp only
    rw [Int.neg_mul_neg, Int.mul_tdiv_cancel' (hdvd m)]
  have hCabs : ∀ m, (C m).natAbs = (Dj n0 n1 P0 P1 (b - 1) m).natAbs := fun m => by
    have h1 := htop m
    rw [hCW m, Int.natAbs_mul, Int.natAbs_neg, Int.natAbs_natCast] at h1
    exact Nat.eq_of_mul_eq_mul_left hbeta h1
  have hCz : ∀ m, b ≤ m → C m = 0 := fun m hm => by
    rw [← hCdef]
    dsimp only
    rw [hWz m hm, Int.zero_tdiv]
    rfl
  have hCbd : ∀ m, (C m).natAbs ≤ R ^ (n0 + n1 + 2 - 2 * b) := fun m => by
    rcases Nat.lt_or_ge m b with e | e
    · rw [hCabs m]
      refine Nat.le_trans (Dj_bd hP09 hP19 (by omega) hX hY) ?_
      rw [← Nat.pow_add]
      exact Nat.pow_le_pow_right hR1 (by omega)
    · rw [hCz m e]
      exact Nat.zero_le _
  have hdC : dl C ≠ 0 := by
    have hm : dl W - 1 < 9 := by omega
    refine dl_of hm (fun e => hWn ?_)
    rw [hCW, e, Int.mul_zero]
  have hdC2 : dl C ≤ b := by
    rcases Nat.lt_or_ge b (dl C) with e | e
    · have h1 : C (dl C - 1) ≠ 0 := ln_top hdC
      exact absurd (hCz _ (by omega)) h1
    · exact e
  have htl : tlen (10 + (l + 1)) = min 9 (10 - (l + 1)) := tl_link (by omega) (by omega)
  have hcap : capP (10 + (l + 1)) = 100 := by unfold capP; rw [if_neg (by omega), if_neg (by omega), if_neg (by omega)]
  refine ⟨pk_in (l + 1) _ (by omega), sp_pload (by omega) (by omega) hP6 (fun i hi => ?_) (fun i hi => hCz i (by omega)) (fun τ7 hP7 hC7 => ?_)⟩
  · rw [hcap]
    exact Nat.lt_of_le_of_lt (hCbd i) (hroom.link hR1 (by omega))
  have hC27 : Cg τ2 τ7 (fun w => inP 8 w ∨ w = 322 ∨ pS w ∨ inP (10 + (l + 1)) w) (fun p => p = 10 + (l + 1)) := (hC26.mono (fun w hw => by rcases hw with hw | hw | hw; exact Or.inl hw; exact Or.inr (Or.inl hw); exact Or.inr (Or.inr (Or.inl hw))) (fun _ z => z.elim)).trans (hC7.mono (fun w hw => Or.inr (Or.inr (Or.inr hw))) (fun _ z => z))
  have hPl7 : ∀ i, i ≤ l → Pl τ7 (10 + i) (L i) := fun i hi => (hPl2 i hi).cg hC27 (fun w hw => by unfold inP at hw; unfold pS inP; omega) (by omega)
  have hh7 : RpW τ7 325 h := hh2.cg hC27 (by unfold pS inP; omega)
  -- the next height
  obtain ⟨h', hh'1, hh'2⟩ : ∃ h' : Nat, ((a = b ∧ h' = h) ∨ (b < a ∧ h' * h ^ (a - b - 1) = (L l b).natAbs ^ (a - b))) ∧ h' < 2147483648 ^ 100 := by
    rcases Nat.eq_or_lt_of_le hba with e | e
    · exact ⟨h, Or.inl ⟨e.symm, rfl⟩, hh.bd⟩
    · refine ⟨(Dj n0 n1 P0 P1 b b).natAbs, Or.inr ⟨e, si_low hSI hB e⟩, ?_⟩
      refine Nat.lt_of_le_of_lt (Dj_bd hP09 hP19 (Nat.le_refl _) hX hY) ?_
      rw [← Nat.pow_add]
      exact hroom.link hR1 (by omega)
  have hlB : (L l b).natAbs ≤ R ^ be := hbe b
  have hlcb : (lc (L l)).natAbs < 2147483648 ^ 100 := by
    have h1 := (hPl7 l (Nat.le_refl _)).1 b (by rw [tl_link hl1 hl9]; omega)
    have h2 := h1.bd
    rw [cap_t (10 + l) (by omega) b (by omega), show capP (10 + l) = 100 by unfold capP; rw [if_neg (by omega), if_neg (by omega), if_neg (by omega)]] at h2
    rw [hlcB]
    exact h2
  have hpb : (lc (L l)).natAbs ^ (a - b) < 2147483648 ^ 299 := by
    rw [hlcB]
    refine Nat.lt_of_le_of_lt ?_ hwb
    refine Nat.le_trans (Nat.pow_le_pow_left hlB _) ?_
    have h3 : 1 ≤ R ^ be := Nat.pow_pos hR1
    have h4 : 1 ≤ R ^ al := Nat.pow_pos hR1
    refine Nat.le_trans ?_ (Nat.le_mul_of_pos_left _ h4)
    exact Nat.le_trans (Nat.pow_le_pow_left (show R ^ be ≤ 2 * R ^ be by omega) _) (Nat.pow_le_pow_right (by omega) (by omega))
  refine sp_follow (h2 := h') (by omega) (by omega) (hPl7 l (Nat.le_refl _)) (by omega) hh7 hlcb hpb hSI.2.1 hh'2 (fun h1 => ?_) (fun h1 => ?_) (fun τ8 hr8 hr9 hc8 => ?_)
  · rcases hh'1 with ⟨e1, e2⟩ | ⟨e1, e2⟩
    · omega
    · rw [hlcB]
      exact e2
  · rcases hh'1 with ⟨e1, e2⟩ | ⟨e1, e2⟩
    · exact e2
    · omega
  have hC8 := hc8.cg (fun _ => False)
  have hPl8 : ∀ i, i ≤ l → Pl τ8 (10 + i) (L i) := fun i hi => (hPl7 i hi).cg hC8 (fun w hw => by unfold inP at hw; unfold fS; omega) (fun z => z)
  have hPC8 : Pl τ8 (10 + (l + 1)) C := hP7.cg hC8 (fun w hw => by unfold inP at hw; unfold fS; omega) (fun z => z)
  have hK8 : cK τ8 0 = nI l := by rw [hC8.2.2 0, hC27.2.2 0]; exact hK2
  rw [hK8, nI_1]
  rw [hlcB] at hr8
  refine hN (sK τ8 0 (nI (l + 1))) (lset L (l + 1) C) (dl C - 1) (L l b).natAbs h' ⟨⟨cK_sK _ _, by omega, by omega, ?_, ?_, fun i hi => ?_, ⟨fun i hi => ?_, fun i h1 h2 => ?_⟩, ?_⟩, ⟨?_, ?_, by omega, by omega, fun _ => by omega, by omega, fun _ => hbn1⟩, ⟨hr8, hr9, ?_⟩, be, n0 + n1 + 2 - 2 * b, ?_, ?_, ?_, ?_, fun e => absurd e (by omega)⟩
  · rw [lset_n (by omega)]; exact hL0
  · rw [lset_n (by omega)]; exact hL1
  · by_cases e : i = l + 1
    · rw [e, lset_e]
      exact hPC8
    · rw [lset_n e]
      exact hPl8 i (by omega)
  · by_cases e : i = l + 1
    · rw [e, lset_e]
      exact ⟨hdC, fun m hm => hCz m (by omega)⟩
    · rw [lset_n e]
      exact hSC.1 i (by omega)
  · rw [lset_n (show ¬ i = l + 1 by omega), lset_n (show ¬ i - 1 = l + 1 by omega)]
    by_cases e : i = l
    · subst e
      rw [lset_e]
      refine ⟨by omega, ((L i b).natAbs : Int) ^ (a - b + 1), ((g * h ^ (a - b) : Nat) : Int), q, a - b + 1, hu, by omega, fun m => ?_⟩
      rw [hq m, hCW m, Int.neg_mul]
      omega
    · rw [lset_n (by omega)]
      exact hSC.2 i h1 (by omega)
  · refine (((hCx2.trans (hC27.cx.mono (fun w hw => ?_) (fun p hp => ?_))).trans (hC8.cx.mono (fun w hw => ?_) (fun _ z => z.elim))).trans (Cx.sK _ _ _ _))
    · rcases hw with hw | hw | hw | hw
      · exact Or.inl hw
      · exact Or.inr ⟨by omega, by omega⟩
      · unfold pS at hw; exact Or.inr ⟨by omega, by omega⟩
      · unfold inP at hw; exact Or.inr ⟨by omega, by omega⟩
    · exact Or.inr ⟨by omega, by omega⟩
    · unfold fS at hw; exact Or.inr ⟨by omega, by omega⟩
  · rw [Nat.add_sub_cancel, lset_n (by omega)]
    exact hdb
  · rw [lset_e]
    omega
  · rw [Nat.add_sub_cancel, lset_n (by omega), lset_e]
    exact si_step hSI hB hBb (fun m hm => dl_zero (fun i hi => hCz i (by omega)) (by omega)) (by omega) hba (fun m => by rw [hWdef]; exact hCW m) hh'1
  · rw [Nat.add_sub_cancel, lset_n (by omega)]
    exact hbe
  · rw [lset_e]
    exact hCbd
  · rcases hnbe with e | e
    · exact Or.inl e
    · by_cases e2 : l = 1
      · by_cases e3 : a = b
        · exact Or.inl (hbe1 e2)
        · exact Or.inr (by omega)
      · have := hlt e2
        exact Or.inr (by omega)
  · exact Or.inr (by omega)
