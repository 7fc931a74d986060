/-! PURE: build, the loop -/
theorem SI.start (n0 n1 : Nat) (P0 P1 : Row) : SI n0 n1 P0 P1 P0 P1 n0 n1 1 1 := ⟨Nat.one_pos, Nat.one_pos, fun _ => rfl, fun j _ _ k => by rw [Nat.one_pow, Nat.one_pow, Nat.mul_one, Nat.one_mul]⟩
theorem ns_ge (r : Row) {i n : Nat} (h : i < n) : (r i).natAbs ≤ ns r n := by
  induction n with
  | zero => omega
  | succ n ih =>
    show _ ≤ ns r n + (r n).natAbs
    rcases Nat.eq_or_lt_of_le (Nat.le_of_lt_succ h) with e | e
    · rw [e]; omega
    · have := ih e
      omega
theorem ns_ge9 {r : Row} (h9 : ∀ m, 9 ≤ m → r m = 0) (i : Nat) : (r i).natAbs ≤ ns r 9 := by
  rcases Nat.lt_or_ge i 9 with e | e
  · exact ns_ge r e
  · rw [h9 i e]
    exact Nat.zero_le _
theorem sp_build {R n0 n1 : Nat} {P0 P1 : Row} {σ : CS} {Q : CS → Prop} (hroom : roomR R (n0 + n1)) (hn01 : n1 ≤ n0) (h0 : Pl σ 10 P0) (h1 : Pl σ 11 P1) (hd0 : dl P0 = n0 + 1) (hd1 : dl P1 = n1 + 1) (hX : ns P0 9 ≤ R) (hY : ns P1 9 ≤ R)
    (hQ : ∀ σ' l L, 1 ≤ l → l ≤ 9 → cK σ' 0 = nI l → L 0 = P0 → L 1 = P1 → (∀ i, i ≤ l → Pl σ' (10 + i) (L i)) → SCp L l → SCe L l → Cx σ σ' kS kD → Q σ') : wpX1_build σ Q := by
  have hP09 := h0.i9
  have hP19 := h1.i9
  have hn0 : n0 ≤ 8 := by have := dl_le P0; omega
  have hR1 : 1 ≤ R := by
    have h2 : P0 (dl P0 - 1) ≠ 0 := ln_top (show dl P0 ≠ 0 by omega)
    have h3 := ns_ge9 hP09 (dl P0 - 1)
    omega
  show wpX1_build_0 Q σ
  unfold wpX1_build_0
  refine sp_setOne (fun τ1 hr1 hc1 => sp_setOne (fun τ2 hr2 hc2 => ?_))
  refine lq1_i (I := fun τ => ∃ l L a b g h, BI σ τ R n0 n1 P0 P1 l L a b g h) (μ := fun τ => 10 - (cK τ 0).toNatClampNeg) ?_ _ ?_
  · rintro N τ ⟨l, L, a, b, g, h, hI⟩ hN
    refine sp_build_body hroom hR1 hn01 hn0 hP09 hP19 hX hY hI (fun τ' g1 g2 g3 g4 => hQ τ' l L hI.1.2.1 hI.1.2.2.1 g2 hI.1.2.2.2.1 hI.1.2.2.2.2.1 g1 hI.1.2.2.2.2.2.2.1 g3 g4) (fun τ' L' c g' h' hI' => hN τ' ⟨_, _, _, _, _, _, hI'⟩ ?_)
    have e1 := hI.1.1
    have e2 := hI'.1.1
    have e3 := hI'.1.2.2.1
    show 10 - (cK τ' 0).toNatClampNeg < 10 - (cK τ 0).toNatClampNeg
    rw [e1, e2, nI_clamp (by omega), nI_clamp (by omega)]
    omega
  · have hC : Cx σ τ2 kS kD := (hc1.kk (fun w hw => by omega)).trans (hc2.kk (fun w hw => by omega))
    have hst : ∀ {p : Nat} {c : Nat → Int}, p = 10 ∨ p = 11 → Pl σ p c → Pl τ2 p c := fun hp hP => hP.cx hC (fun w hw hz => by unfold inP at hw; unfold kS inP at hz; omega) (by unfold kD; omega)
    have hr1' : RpW τ2 324 1 := hr1.ch hc2 (by omega)
    refine ⟨1, fun i => if i = 0 then P0 else P1, n0, n1, 1, 1, ⟨cK_sK _ _, Nat.le_refl _, by omega, rfl, rfl, fun i hi => ?_, ⟨fun i hi => ?_, fun i h1 h2 => absurd h1 (by omega)⟩, hC.trans (Cx.sK _ _ _ _)⟩, ⟨hd0, hd1, hn01, by omega, fun h => absurd rfl h, Nat.le_refl _, fun h => absurd h (by omega)⟩, ⟨hr1', hr2, SI.start n0 n1 P0 P1⟩, 1, 1, fun m => ?_, fun m => ?_, Or.inl (Nat.le_refl _), Or.inl (Nat.le_refl _), fun _ => Nat.le_refl _⟩
    · rcases (show i = 0 ∨ i = 1 by omega) with e | e
      · subst e
        exact hst (Or.inl rfl) h0
      · subst e
        exact hst (Or.inr rfl) h1
    · rcases (show i = 0 ∨ i = 1 by omega) with e | e
      · subst e
        exact ⟨by show dl P0 ≠ 0; omega, hP09⟩
      · subst e
        exact ⟨by show dl P1 ≠ 0; omega, hP19⟩
    · rw [Nat.pow_one]
      exact Nat.le_trans (ns_ge9 hP09 m) hX
    · rw [Nat.pow_one]
      exact Nat.le_trans (ns_ge9 hP19 m) hY
