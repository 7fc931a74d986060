/-! PURE: the face: remainder, quotient, gcd, once, sign, roots, allRoots -/
theorem rm_pw {k : Nat} (hk : k ≤ 9) : 2147483648 ^ 6 * (2 * 2147483648 ^ 6) ^ k < 2147483648 ^ 299 := by
  have h1 : (2 * 2147483648 ^ 6) ^ k ≤ (2 * 2147483648 ^ 6) ^ 9 := Nat.pow_le_pow_right (by decide +kernel) hk
  exact Nat.lt_of_le_of_lt (Nat.mul_le_mul_left _ h1) (by decide +kernel)
theorem ref_two {x y : Nat} {c : Nat → Row} {h : Hand} {ρ : RS} {Q : RS → Prop} (hx : x < 8) (hy : y < 8) (hF : RelR ρ c h)
    (hQ : ∀ τ, PR τ 18 (c x) → PR τ 19 (c y) → RelR τ c h → Q τ) : wpX5_copyAll (nI x) (18 : Int32) ρ (fun (σ8 : RS) => wpX5_copyAll (nI y) (19 : Int32) σ8 (fun (σ10 : RS) => Q σ10)) := by
  refine sp_rcopyAll (q := 18) (by omega) (by omega) (by omega) (hF.1 x hx) (fun τ1 f1 f2 => ?_)
  have hF1 := hi23 f2 (fun n hn => by unfold inR at hn; omega) (fun p hp => by omega) hF
  refine sp_rcopyAll (q := 19) (by omega) (by omega) (by omega) (hF1.1 y hy) (fun τ2 f3 f4 => ?_)
  exact hQ τ2 (f1.cp f4 (by omega)) f3 (hi23 f4 (fun n hn => by unfold inR at hn; omega) (fun p hp => by omega) hF1)
theorem st_remainder (σ : CS) (ρ : RS) (hR : Rel σ ρ) (a1 a2 a3 : Int32) : wpX4_remainder a1 a2 a3 σ (fun r σ1 => wpX5_remainder a1 a2 a3 ρ (fun r1 ρ1 => r = r1 ∧ Rel σ1 ρ1)) := by
  have hR' := hR
  obtain ⟨c, h, hC, hF, hH⟩ := hR
  show wpX4_remainder_0 a1 a2 a3 _ σ
  unfold wpX4_remainder_0
  refine are4 ?_ ?_
  · rintro d x y hd hx hy rfl rfl rfl
    have hdx := dl_le (c x)
    have hdy := dl_le (c y)
    refine ⟨fun _ => ⟨pk_in y _ hy, ?_⟩, fun h1 => absurd h1 (by decide)⟩
    rw [nI_clamp (by omega), nI_clamp (by omega), (hC.1 y hy).2.2, deg_nn hdy]
    refine ⟨fun h4 => ⟨pk_in x _ hx, pk_in y _ hy, sp_rest hx hy (hC.1 x hx) (hC.1 y hy) h4 (hC.2.1 x hx) (hC.2.1 y hy) (fun σ1 f1 f2 => ?_)⟩, fun h4 => ?_⟩
    · refine fin_op hd (by omega) (by omega) (hC.cx hH (bcx f2)) hH f1 (fun Q hQ => ?_)
      show wpX5_remainder_0 (nI d) (nI x) (nI y) Q ρ
      unfold wpX5_remainder_0 wpX5_remainder_21
      refine good5 hd hx hy ⟨pk_in y _ (by omega), ?_⟩
      rw [nI_clamp (by omega), (hF.1 y hy).2.2, deg_nn hdy]
      refine ⟨fun _ => ref_two hx hy hF (fun τ k1 k2 k3 => ?_), fun h5 => absurd h4 h5⟩
      refine sp_rremain k1 k2 h4 (fun i => Nat.le_of_lt (hC.2.1 x hx i)) (fun i => Nat.le_of_lt (hC.2.1 y hy i)) (p299l (rm_pw (by omega))) (fun τ1 g1 g2 => ?_)
      unfold remF at g1
      rw [if_pos rfl] at g1
      exact sp_rresult (s := 20) hd (by omega) (by omega) (hi23 g2 (fun n hn => by unfold rmS inR tmR at hn; omega) (fun p hp => by omega) k3) hH g1 hQ
    · show wpX5_remainder_0 (nI d) (nI x) (nI y) _ ρ
      unfold wpX5_remainder_0 wpX5_remainder_21
      refine good5 hd hx hy ⟨pk_in y _ (by omega), ?_⟩
      rw [nI_clamp (by omega), (hF.1 y hy).2.2, deg_nn hdy]
      exact ⟨fun h5 => absurd h5 h4, fun _ => ⟨rfl, hR'⟩⟩
  · intro hb
    refine ⟨fun h1 => absurd rfl h1, fun _ => ?_⟩
    show wpX5_remainder_0 a1 a2 a3 _ ρ
    unfold wpX5_remainder_0 wpX5_remainder_21
    exact bad5 hb ⟨rfl, hR'⟩
theorem q_pw {k : Nat} (hk : k ≤ 9) : 2147483648 ^ 6 * (2 * 2147483648 ^ 6) ^ (k - 1) < 2147483648 ^ 60 ∧ 2147483648 ^ 6 * (2 * 2147483648 ^ 6) ^ k < 2147483648 ^ 298 := by
  have h1 : (2 * 2147483648 ^ 6) ^ (k - 1) ≤ (2 * 2147483648 ^ 6) ^ 8 := Nat.pow_le_pow_right (by decide +kernel) (by omega)
  have h2 : (2 * 2147483648 ^ 6) ^ k ≤ (2 * 2147483648 ^ 6) ^ 9 := Nat.pow_le_pow_right (by decide +kernel) hk
  exact ⟨Nat.lt_of_le_of_lt (Nat.mul_le_mul_left _ h1) (by decide +kernel), Nat.lt_of_le_of_lt (Nat.mul_le_mul_left _ h2) (by decide +kernel)⟩
theorem st_quotient (σ : CS) (ρ : RS) (hR : Rel σ ρ) (a1 a2 a3 : Int32) : wpX4_quotient a1 a2 a3 σ (fun r σ1 => wpX5_quotient a1 a2 a3 ρ (fun r1 ρ1 => r = r1 ∧ Rel σ1 ρ1)) := by
  have hR' := hR
  obtain ⟨c, h, hC, hF, hH⟩ := hR
  show wpX4_quotient_0 a1 a2 a3 _ σ
  unfold wpX4_quotient_0
  refine are4 ?_ ?_
  · rintro d x y hd hx hy rfl rfl rfl
    have hdx := dl_le (c x)
    have hdy := dl_le (c y)
    refine ⟨fun _ => ⟨pk_in x _ hx, pk_in y _ hy, ?_⟩, fun h1 => absurd h1 (by decide)⟩
    rw [nI_clamp (by omega), nI_clamp (by omega)]
    have hB : dl (c y) ≠ 0 → dvB (c y) (dl (c y) - 1) 60 (dl (c x) + 1 - dl (c y)) (c x) := fun h0 => by
      obtain ⟨q1, q2⟩ := q_pw (k := dl (c x) + 1 - dl (c y)) (by omega)
      exact dvB_gen (by decide +kernel) (fun i => Nat.le_of_lt (hC.2.1 y hy i)) _ (fun i => Nat.le_of_lt (hC.2.1 x hx i)) q1 q2
    -- the reference
    have ref : ∀ Q : Int32 → RS → Prop, ((dl (c y) = 0 ∨ ¬ dvOK (c y) (dl (c y) - 1) (dl (c x) + 1 - dl (c y)) (c x)) → ∀ τ, RelR τ c h → Q 2 τ) → (dl (c y) ≠ 0 → dvOK (c y) (dl (c y) - 1) (dl (c x) + 1 - dl (c y)) (c x) → ∀ τ, RelR τ c h → PR τ 21 (dvQ (c y) (dl (c y) - 1) (dl (c x) + 1 - dl (c y)) (c x)) → wpX5_result (nI d) (21 : Int32) τ Q) → wpX5_quotient (nI d) (nI x) (nI y) ρ Q := by
      intro Q q1 q2
      show wpX5_quotient_0 (nI d) (nI x) (nI y) Q ρ
      unfold wpX5_quotient_0 wpX5_quotient_21
      refine good5 hd hx hy ⟨pk_in y _ (by omega), ?_⟩
      rw [nI_clamp (by omega), (hF.1 y hy).2.2, deg_nn hdy]
      refine ⟨fun h4 => ref_two hx hy hF (fun τ k1 k2 k3 => ?_), fun h4 => q1 (Or.inl (by omega)) ρ hF⟩
      refine sp_rover k1 k2 h4 (hB h4) (fun r τ1 g1 g2 => ?_)
      have hF1 := hi23 g1 (fun n hn => by unfold ovS inR tmR at hn; omega) (fun p hp => by unfold ovD at hp; omega) k3
      rcases g2 with ⟨e, g2⟩ | ⟨e, g2, g3⟩
      · subst e
        exact ⟨fun _ => q1 (Or.inr g2) τ1 hF1, fun h5 => absurd rfl h5⟩
      · subst e
        exact ⟨fun h5 => absurd h5 (by decide), fun _ => q2 h4 g2 τ1 hF1 g3⟩
    refine sp_splits (by omega) (by omega) (by omega) (by omega) (by omega) (hC.1 x hx) (hC.1 y hy) (fun i => lt_cap (hC.2.1 x hx i) (by omega)) hB (fun r σ1 f1 f2 => ?_)
    have hC1 := hC.cx hH (bcx9 f1)
    rcases f2 with ⟨e, f2⟩ | ⟨e, f2, f3, f4⟩
    · subst e
      refine ⟨fun h5 => absurd rfl h5, fun _ => ref _ (fun _ τ hFt => ⟨rfl, c, h, hC1, hFt, hH⟩) (fun h6 h7 => ?_)⟩
      rcases f2 with f2 | f2
      · exact absurd f2 h6
      · exact absurd h7 f2
    · subst e
      refine ⟨fun _ => fin_op hd (by omega) (by omega) hC1 hH f4 (fun Q hQ => ref Q (fun h6 => ?_) (fun _ _ τ hFt g3 => sp_rresult (s := 21) hd (by omega) (by omega) hFt hH g3 hQ)), fun h5 => absurd h5 (by decide)⟩
      rcases h6 with h6 | h6
      · exact absurd h6 f2
      · exact absurd f3 h6
  · intro hb
    refine ⟨fun h1 => absurd rfl h1, fun _ => ?_⟩
    show wpX5_quotient_0 a1 a2 a3 _ ρ
    unfold wpX5_quotient_0 wpX5_quotient_21
    exact bad5 hb ⟨rfl, hR'⟩
theorem gcd_room {x y : Row} (hx9 : ∀ i, 9 ≤ i → x i = 0) (hy9 : ∀ i, 9 ≤ i → y i = 0) (hbx : ∀ i, (x i).natAbs < 2147483648 ^ 6) (hby : ∀ i, (y i).natAbs < 2147483648 ^ 6) (hx0 : dl x ≠ 0) (hy0 : dl y ≠ 0) (hd : dl y ≤ dl x) : ∃ R, PG R (dl x - 1) (dl y - 1) x y := by
  have hdx := dl_le x
  have hR : ∀ {c : Row}, (∀ i, (c i).natAbs < 2147483648 ^ 6) → ns c 9 ≤ 36 * 2147483648 ^ 6 := fun h => Nat.le_trans (ns_bd9 (fun i => Nat.le_of_lt (h i))) (Nat.mul_le_mul_right _ (by omega))
  exact ⟨36 * 2147483648 ^ 6, roomA (by omega), by decide +kernel, by omega, by omega, hx9, hy9, hR hbx, hR hby, by omega, by omega⟩
theorem st_gcd (σ : CS) (ρ : RS) (hR : Rel σ ρ) (a1 a2 a3 : Int32) : wpX4_gcd a1 a2 a3 σ (fun r σ1 => wpX5_gcd a1 a2 a3 ρ (fun r1 ρ1 => r = r1 ∧ Rel σ1 ρ1)) := by
  have hR' := hR
  obtain ⟨c, h, hC, hF, hH⟩ := hR
  show wpX4_gcd_0 a1 a2 a3 _ σ
  unfold wpX4_gcd_0
  refine are4 ?_ ?_
  · rintro d x y hd hx hy rfl rfl rfl
    refine ⟨fun _ => ⟨pk_in x _ hx, pk_in y _ hy, ?_⟩, fun h1 => absurd h1 (by decide)⟩
    rw [nI_clamp (by omega), nI_clamp (by omega)]
    refine sp_commonDivisor hx hy (hC.1 x hx) (hC.1 y hy) (hC.2.1 x hx) (hC.2.1 y hy) (fun σ1 p G f1 f2 f3 f4 f5 => ?_)
    refine fin_op hd (by omega) (by omega) (hC.cx hH f5) hH f3 (fun Q hQ => ?_)
    show wpX5_gcd_0 (nI d) (nI x) (nI y) Q ρ
    unfold wpX5_gcd_0 wpX5_gcd_21
    refine good5 hd hx hy (ref_two hx hy hF (fun τ k1 k2 k3 => ?_))
    refine sp_rdivisor k1 k2 (fun h0 h1 => ?_) (fun τ1 G' g1 g2 g3 => ?_)
    · unfold ori ori2
      by_cases e : dl (c x) < dl (c y)
      · rw [if_pos e, if_pos e]
        exact gcd_room k2.2.1 k1.2.1 (hC.2.1 y hy) (hC.2.1 x hx) h1 h0 (by omega)
      · rw [if_neg e, if_neg e]
        exact gcd_room k1.2.1 k2.2.1 (hC.2.1 x hx) (hC.2.1 y hy) h0 h1 (by omega)
    · have hGG : G = G' := gcd_uniq f4 g2
      subst hGG
      exact sp_rresult (s := 18) hd (by omega) (by omega) (hi23 g3 (fun n hn => by unfold hiS at hn; omega) (fun p hp => by unfold hiD at hp; omega) k3) hH g1 hQ
  · intro hb
    refine ⟨fun h1 => absurd rfl h1, fun _ => ?_⟩
    show wpX5_gcd_0 a1 a2 a3 _ ρ
    unfold wpX5_gcd_0 wpX5_gcd_21
    exact bad5 hb ⟨rfl, hR'⟩
theorem st_once (σ : CS) (ρ : RS) (hR : Rel σ ρ) (a1 a2 : Int32) : wpX4_once a1 a2 σ (fun r σ1 => wpX5_once a1 a2 ρ (fun r1 ρ1 => r = r1 ∧ Rel σ1 ρ1)) := by
  have hR' := hR
  obtain ⟨c, h, hC, hF, hH⟩ := hR
  show wpX4_once_0 a1 a2 _ σ
  unfold wpX4_once_0
  refine are4 ?_ ?_
  · rintro d x y hd hx hy rfl rfl _
    have hdx := dl_le (c x)
    refine ⟨fun _ => ⟨pk_in x _ hx, ?_⟩, fun h1 => absurd h1 (by decide)⟩
    rw [nI_clamp (by omega), (hC.1 x hx).2.2, deg_nn hdx]
    have ref : ∀ Q : Int32 → RS → Prop, (dl (c x) = 0 → Q 2 ρ) → (dl (c x) ≠ 0 → wpX5_onceOf (nI x) ρ (fun (σ6 : RS) => wpX5_result (nI d) (21 : Int32) σ6 (fun (r7 : Int32) (σ8 : RS) => Q r7 σ8))) → wpX5_once (nI d) (nI x) ρ Q := by
      intro Q q1 q2
      show wpX5_once_0 (nI d) (nI x) Q ρ
      unfold wpX5_once_0 wpX5_once_14
      refine good5' hd hx ⟨pk_in x _ (by omega), ?_⟩
      rw [nI_clamp (by omega), (hF.1 x hx).2.2, deg_nn hdx]
      exact ⟨fun h4 => q2 h4, fun h4 => q1 (by omega)⟩
    refine ⟨fun h4 => ⟨pk_in x _ hx, sp_squareFree hx (hC.1 x hx) h4 (hC.2.1 x hx) (fun σ1 p S f1 f2 f3 f4 f5 => ?_)⟩, fun h4 => ref _ (fun _ => ⟨rfl, hR'⟩) (fun h5 => absurd h5 h4)⟩
    refine fin_op hd (by omega) (by omega) (hC.cx hH f5) hH f3 (fun Q hQ => ref Q (fun h5 => absurd h5 h4) (fun _ => ?_))
    refine sp_ronce hx (hF.1 x hx) h4 (hC.2.1 x hx) (fun τ S' s0 s1 s2 s3 s4 s5 s6 s7 s8 => ?_)
    have hSS : S = S' := once_uniq f4 s1
    subst hSS
    exact sp_rresult (s := 21) hd (by omega) (by omega) (hi23 s8 (fun n hn => by unfold hiS at hn; omega) (fun p hp => by unfold hiD at hp; omega) hF) hH s0 hQ
  · intro hb
    refine ⟨fun h1 => absurd rfl h1, fun _ => ?_⟩
    show wpX5_once_0 a1 a2 _ ρ
    unfold wpX5_once_0 wpX5_once_14
    exact bad5' hb ⟨rfl, hR'⟩
theorem t64 (x : Int32) : x.toInt64.toInt = x.toInt := Int32.toInt_toInt64 x
theorem b32 (x : Int32) : -2147483648 ≤ x.toInt ∧ x.toInt ≤ 2147483647 := by
  have h1 := Int32.le_toInt x
  have h2 := Int32.toInt_lt x
  omega
theorem n64 (x : Int32) : (-x.toInt64).toInt = -x.toInt := by
  have := b32 x
  rw [Int64.toInt_neg, t64, Int.bmod_eq_of_le (by omega) (by omega)]
theorem b6100 {x : Nat} (h : x < 2147483648 ^ 6) : x < 2147483648 ^ 100 := lt_cap h (by omega)
theorem st_sign (σ : CS) (ρ : RS) (hR : Rel σ ρ) (a1 a2 a3 : Int32) : wpX4_sign a1 a2 a3 σ (fun r σ1 => wpX5_sign a1 a2 a3 ρ (fun r1 ρ1 => r = r1 ∧ Rel σ1 ρ1)) := by
  have hR' := hR
  obtain ⟨c, h, hC, hF, hH⟩ := hR
  show wpX4_sign_0 a1 a2 a3 _ σ
  unfold wpX4_sign_0 wpX4_sign_11 wpX4_sign_27
  have hs0 : (0 : Int32).toInt = 0 := rfl
  have hb2 := b32 a2
  have hb3 := b32 a3
  rcases reg_or a1 with ⟨p, hp, rfl⟩ | e
  · refine isR4_t hp ⟨fun h1 => absurd h1 (by decide), fun _ => ⟨fun h3 => ?_, fun h3 => ?_⟩⟩
    · have fin : ∀ y2 y3 : Int64, y2.toInt.natAbs ≤ 2147483648 → y3.toInt.natAbs ≤ 2147483648 → (∀ Q : Int32 → RS → Prop, wpX5_signAt (nI p) y2 y3 ρ Q → wpX5_sign (nI p) a2 a3 ρ Q) → wpX0_signAt p y2 y3 σ (fun r3 σ4 => wpX5_sign (nI p) a2 a3 ρ (fun r1 ρ1 => r3 = r1 ∧ Rel σ4 ρ1)) := by
        intro y2 y3 q1 q2 q3
        refine sp_signAt (by omega) (hC.1 p hp) (fun i => b6100 (hC.2.1 p hp i)) q1 q2 (fun σ1 f1 => q3 _ (sp_rsignAt (by omega) (hF.1 p hp) (fun i => b6100 (hC.2.1 p hp i)) q1 q2 (fun ρ1 f2 => ⟨rfl, c, h, ?_, ?_, hH⟩)))
        · exact hC.cx hH (f1.cx.mono (fun w hw => by unfold cxS; omega) (fun _ z => z.elim))
        · exact hi23 f2 (fun n hn => by unfold tmR at hn; omega) (fun _ z => z.elim) hF
      have hpos : 0 ≤ a3 ↔ 0 < a3.toInt64 := by
        rw [Int32.le_iff_toInt_le, Int64.lt_iff_toInt_lt, t64, hs0, show (0 : Int64).toInt = 0 from rfl]
        have : a3.toInt ≠ 0 := fun e => h3 (Int32.toInt_inj.mp (by rw [e]; rfl))
        omega
      refine ⟨fun h4 => ⟨pk_in p _ hp, fun b2 hb => ?_⟩, fun h4 b7 hb7 => ⟨pk_in p _ hp, fun b2 hb => ?_⟩⟩
      · rw [if_pos (hpos.mp h4)] at hb
        subst hb
        rw [nI_clamp (by omega)]
        refine fin _ _ (by rw [t64]; omega) (by rw [t64]; omega) (fun Q hQ => ?_)
        show wpX5_sign_0 (nI p) a2 a3 Q ρ
        unfold wpX5_sign_0
        exact isR5_t hp ⟨fun h1 => absurd h1 (by decide), fun _ => ⟨fun _ => ⟨fun _ => hQ, fun h5 => absurd h4 h5⟩, fun h5 => absurd h5 h3⟩⟩
      · rw [if_neg (fun z => h4 (hpos.mpr z))] at hb
        subst hb hb7
        rw [nI_clamp (by omega)]
        refine fin _ _ (by rw [n64]; omega) (by rw [n64]; omega) (fun Q hQ => ?_)
        show wpX5_sign_0 (nI p) a2 a3 Q ρ
        unfold wpX5_sign_0
        exact isR5_t hp ⟨fun h1 => absurd h1 (by decide), fun _ => ⟨fun _ => ⟨fun h5 => absurd h5 h4, fun _ => hQ⟩, fun h5 => absurd h5 h3⟩⟩
    · show wpX5_sign_0 (nI p) a2 a3 _ ρ
      unfold wpX5_sign_0 wpX5_sign_11
      exact isR5_t hp ⟨fun h1 => absurd h1 (by decide), fun _ => ⟨fun h5 => absurd h3 h5, fun _ => ⟨rfl, hR'⟩⟩⟩
  · refine isR4_f e ⟨fun _ => ?_, fun h1 => absurd rfl h1⟩
    show wpX5_sign_0 a1 a2 a3 _ ρ
    unfold wpX5_sign_0 wpX5_sign_11
    exact isR5_f e ⟨fun _ => ⟨rfl, hR'⟩, fun h1 => absurd rfl h1⟩
theorem chf_rc {S : Row} {ρ : RS} (h : ChF S ρ) : ∃ l M, RC ρ l M ∧ RCh S l M := by
  obtain ⟨l, M, h1, h2, h3, h4⟩ := h
  exact ⟨l, M, ⟨h1, h2, h3, h4.2.2.1, fun i hi => (h4.2.1 i hi).1⟩, h4⟩
theorem tC_cx {σ σ' : CS} (h : Cg σ σ' tC' (fun _ => False)) : Cx σ σ' cxS cxD := h.cx.mono (fun w hw => by unfold tC' at hw; unfold cxS; omega) (fun _ z => z.elim)
theorem tm_cz {ρ ρ' : RS} (h : Cq ρ ρ' tmR (fun _ => False)) : Cz ρ ρ' loS loD := h.cz (fun n hn => by unfold tmR at hn; omega) (fun _ z => z.elim)
theorem st_roots (σ : CS) (ρ : RS) (hR : Rel σ ρ) (a1 a2 a3 : Int32) : wpX4_roots a1 a2 a3 σ (fun r σ1 => wpX5_roots a1 a2 a3 ρ (fun r1 ρ1 => r = r1 ∧ Rel σ1 ρ1)) := by
  have hR' := hR
  obtain ⟨c, h, hC, hF, hH⟩ := hR
  have hb2 := b32 a2
  have hb3 := b32 a3
  show wpX4_roots_0 a1 a2 a3 _ σ
  unfold wpX4_roots_0 wpX4_roots_24
  rcases reg_or a1 with ⟨p, hp, rfl⟩ | e
  · have hdx := dl_le (c p)
    refine isR4_t hp ⟨fun h1 => absurd h1 (by decide), fun _ => ⟨pk_in p _ hp, ?_⟩⟩
    rw [nI_clamp (by omega), (hC.1 p hp).2.2, deg_neg hdx]
    have ref : ∀ Q : Int32 → RS → Prop, (dl (c p) = 0 ∨ ¬ a2 ≤ a3 → Q (-1) ρ) → (dl (c p) ≠ 0 → a2 ≤ a3 → wpX5_makeChain (nI p) ρ (fun (σ4 : RS) => wpX5_changes a2.toInt64 σ4 (fun (r5 : Int32) (σ6 : RS) => wpX5_changes a3.toInt64 σ6 (fun (r7 : Int32) (σ8 : RS) => Q (r5 - r7) σ8)))) → wpX5_roots (nI p) a2 a3 ρ Q := by
      intro Q q1 q2
      show wpX5_roots_0 (nI p) a2 a3 Q ρ
      unfold wpX5_roots_0 wpX5_roots_21
      refine isR5_t hp ⟨fun h1 => absurd h1 (by decide), fun _ => ⟨pk_in p _ (by omega), ?_⟩⟩
      rw [nI_clamp (by omega), (hF.1 p hp).2.2, deg_neg hdx]
      exact ⟨fun h4 => q1 (Or.inl h4), fun h4 => ⟨fun h5 => q2 h4 h5, fun h5 => q1 (Or.inr h5)⟩⟩
    refine ⟨fun h4 => ref _ (fun _ => ⟨rfl, hR'⟩) (fun h5 => absurd h4 h5), fun h4 => ⟨fun h5 => ⟨pk_in p _ hp, ?_⟩, fun h5 => ref _ (fun _ => ⟨rfl, hR'⟩) (fun _ h6 => absurd h6 h5)⟩⟩
    refine sp_prepare hp (hC.1 p hp) h4 (hC.2.1 p hp) (fun σ1 l L f1 f2 f3 f4 f5 => ?_)
    refine sp_changesAt f1 f2 f3 (by rw [t64]; omega) (fun σ2 f6 => ?_)
    have f3' : ∀ i, i ≤ l → Pl σ2 (10 + i) (L i) := fun i hi => (f3 i hi).cg f6 (fun w hw hz => absurd hw.2 (by unfold tC' at hz; omega)) (fun z => z)
    refine sp_changesAt f1 (by rw [f6.2.2 0]; exact f2) f3' (by rw [t64]; omega) (fun σ3 f7 => ?_)
    refine ref _ (fun h6 => by rcases h6 with h6 | h6; exact absurd h6 h4; exact absurd h5 h6) (fun _ _ => ?_)
    refine sp_rchain hp (hF.1 p hp) h4 (hC.2.1 p hp) (fun ρ1 S s1 s2 s3 s4 s5 => ?_)
    obtain ⟨l', M, hRC, hRCh⟩ := chf_rc s4
    obtain ⟨al1, al2, al3⟩ := alike (hF.1 p hp).2.1 f4 s1 hRCh s2 s3
    refine sp_rchanges hRC (by rw [t64]; omega) (fun ρ2 g1 => sp_rchanges (hRC.t g1) (by rw [t64]; omega) (fun ρ3 g2 => ⟨?_, c, h, ?_, ?_, hH⟩))
    · rw [al1, al1]
    · exact hC.cx hH ((f5.trans (tC_cx f6)).trans (tC_cx f7))
    · exact hF.cz ((s5.trans (tm_cz g1)).trans (tm_cz g2))
  · refine isR4_f e ⟨fun _ => ?_, fun h1 => absurd rfl h1⟩
    show wpX5_roots_0 a1 a2 a3 _ ρ
    unfold wpX5_roots_0 wpX5_roots_21
    exact isR5_f e ⟨fun _ => ⟨rfl, hR'⟩, fun h1 => absurd rfl h1⟩
theorem st_allRoots (σ : CS) (ρ : RS) (hR : Rel σ ρ) (a1 : Int32) : wpX4_allRoots a1 σ (fun r σ1 => wpX5_allRoots a1 ρ (fun r1 ρ1 => r = r1 ∧ Rel σ1 ρ1)) := by
  have hR' := hR
  obtain ⟨c, h, hC, hF, hH⟩ := hR
  show wpX4_allRoots_0 a1 _ σ
  unfold wpX4_allRoots_0 wpX4_allRoots_19
  rcases reg_or a1 with ⟨p, hp, rfl⟩ | e
  · have hdx := dl_le (c p)
    refine isR4_t hp ⟨fun h1 => absurd h1 (by decide), fun _ => ⟨pk_in p _ hp, ?_⟩⟩
    rw [nI_clamp (by omega), (hC.1 p hp).2.2, deg_nn hdx]
    have ref : ∀ Q : Int32 → RS → Prop, (dl (c p) = 0 → Q (-1) ρ) → (dl (c p) ≠ 0 → wpX5_makeChain (nI p) ρ (fun (σ4 : RS) => wpX5_changesFar (0 : Int32) σ4 (fun (r5 : Int32) (σ6 : RS) => wpX5_changesFar (1 : Int32) σ6 (fun (r7 : Int32) (σ8 : RS) => Q (r5 - r7) σ8)))) → wpX5_allRoots (nI p) ρ Q := by
      intro Q q1 q2
      show wpX5_allRoots_0 (nI p) Q ρ
      unfold wpX5_allRoots_0 wpX5_allRoots_16
      refine isR5_t hp ⟨fun h1 => absurd h1 (by decide), fun _ => ⟨pk_in p _ (by omega), ?_⟩⟩
      rw [nI_clamp (by omega), (hF.1 p hp).2.2, deg_nn hdx]
      exact ⟨fun h4 => q2 h4, fun h4 => q1 (by omega)⟩
    refine ⟨fun h4 => ⟨pk_in p _ hp, ?_⟩, fun h4 => ref _ (fun _ => ⟨rfl, hR'⟩) (fun h5 => absurd h5 h4)⟩
    refine sp_prepare hp (hC.1 p hp) h4 (hC.2.1 p hp) (fun σ1 l L f1 f2 f3 f4 f5 => ?_)
    refine sp_changesFar f1 f2 f3 (by decide) (fun σ2 f6 => ?_)
    have f3' : ∀ i, i ≤ l → Pl σ2 (10 + i) (L i) := fun i hi => (f3 i hi).cg f6 (fun w hw hz => absurd hw.2 (by unfold tC' at hz; omega)) (fun z => z)
    refine sp_changesFar f1 (by rw [f6.2.2 0]; exact f2) f3' (by decide) (fun σ3 f7 => ?_)
    refine ref _ (fun h6 => absurd h6 h4) (fun _ => ?_)
    refine sp_rchain hp (hF.1 p hp) h4 (hC.2.1 p hp) (fun ρ1 S s1 s2 s3 s4 s5 => ?_)
    obtain ⟨l', M, hRC, hRCh⟩ := chf_rc s4
    obtain ⟨al1, al2, al3⟩ := alike (hF.1 p hp).2.1 f4 s1 hRCh s2 s3
    refine sp_rchangesFar hRC (sp_rchangesFar hRC ⟨?_, c, h, ?_, ?_, hH⟩)
    · rw [al2, al2]
      rfl
    · exact hC.cx hH ((f5.trans (tC_cx f6)).trans (tC_cx f7))
    · exact hF.cz s5
  · refine isR4_f e ⟨fun _ => ?_, fun h1 => absurd rfl h1⟩
    show wpX5_allRoots_0 a1 _ ρ
    unfold wpX5_allRoots_0 wpX5_allRoots_16
    exact isR5_f e ⟨fun _ => ⟨rfl, hR'⟩, fun h1 => absurd rfl h1⟩
