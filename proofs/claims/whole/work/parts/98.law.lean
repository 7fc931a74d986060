/-! PURE: the face: place; every step keeps Rel -/
theorem i32_sub1 {a b : Nat} (ha : a < 100) (hb : b < 100) : (nI a - nI b - 1).toInt = (a : Int) - b - 1 := by
  have h1 : (nI a - nI b).toInt = (a : Int) - b := pk_sub_toInt (by omega) (by omega)
  rw [Int32.toInt_sub, h1, show (1 : Int32).toInt = 1 from rfl, Int.bmod_eq_of_le (by omega) (by omega)]
theorem plc_flr {x S : Row} {l : Nat} {M : Nat → Row} (hl8 : l ≤ 8) (hO : Once x S) (hR : RCh S l M) (k : Int32) : plc M l k = flr M l k := by
  by_cases h1 : k < nI (cFar M l true) - nI (cFar M l false)
  · exact if_neg (fun h => h h1)
  · have e1 : plc M l k = -9223372036854775808 := if_pos h1
    have hle : cFar M l false ≤ cAt M l 2147483648 := by
      obtain ⟨r1, r2, r3, r4⟩ := hR
      rcases r4 with ⟨_, e⟩ | ⟨hd, k1, k2, k3, k4⟩
      · subst e
        have : cFar M 0 false = 0 := one_cnt _
        omega
      · rcases hO with ⟨_, e⟩ | ⟨_, q, hq, hS⟩
        · rw [e, dl_one] at hd
          omega
        · subst hS
          have hs := simple hq k1 k2 k3 r1 k4
          exact sturm k1 k2 (by rw [r1]; exact k4) hs 2147483648
    have b1 : cFar M l true ≤ l + 1 := sst_le _ _
    have b2 : cFar M l false ≤ l + 1 := sst_le _ _
    have b3 : cAt M l 2147483648 ≤ l + 1 := sst_le _ _
    have h2 : ¬ k < rbl M l 2147483648 := by
      rw [Int32.lt_iff_toInt_lt, pk_sub_toInt (by omega) (by omega)] at h1
      unfold rbl
      split
      · rw [Int32.lt_iff_toInt_lt, i32_sub1 (by omega) (by omega)]
        omega
      · rw [Int32.lt_iff_toInt_lt, pk_sub_toInt (by omega) (by omega)]
        omega
    rw [e1]
    unfold flr
    rw [if_pos (Or.inr h2)]
theorem st_place (σ : CS) (ρ : RS) (hR : Rel σ ρ) (a1 a2 : Int32) : wpX4_place a1 a2 σ (fun r σ1 => wpX5_place a1 a2 ρ (fun r1 ρ1 => r = r1 ∧ Rel σ1 ρ1)) := by
  have hR' := hR
  obtain ⟨c, h, hC, hF, hH⟩ := hR
  show wpX4_place_0 a1 a2 _ σ
  unfold wpX4_place_0 wpX4_place_23
  rcases reg_or a1 with ⟨p, hp, rfl⟩ | e
  · have hdx := dl_le (c p)
    refine isR4_t hp ⟨fun h1 => absurd h1 (by decide), fun _ => ⟨pk_in p _ hp, ?_⟩⟩
    rw [nI_clamp (by omega), (hC.1 p hp).2.2, deg_neg hdx]
    have ref0 : ∀ Q : Int64 → RS → Prop, (dl (c p) = 0 ∨ ¬ 0 ≤ a2) → Q (-9223372036854775808) ρ → wpX5_place (nI p) a2 ρ Q := by
      intro Q q0 q1
      show wpX5_place_0 (nI p) a2 Q ρ
      unfold wpX5_place_0 wpX5_place_24
      refine isR5_t hp ⟨fun h1 => absurd h1 (by decide), fun _ => ⟨pk_in p _ (by omega), ?_⟩⟩
      rw [nI_clamp (by omega), (hF.1 p hp).2.2, deg_neg hdx]
      refine ⟨fun _ => q1, fun h4 => ⟨fun h5 => ?_, fun _ => q1⟩⟩
      rcases q0 with q0 | q0
      · exact absurd q0 h4
      · exact absurd h5 q0
    refine ⟨fun h4 => ref0 _ (Or.inl h4) ⟨rfl, hR'⟩, fun h4 => ⟨fun h5 => ⟨pk_in p _ hp, ?_⟩, fun h5 => ref0 _ (Or.inr h5) ⟨rfl, hR'⟩⟩⟩
    refine sp_prepare hp (hC.1 p hp) h4 (hC.2.1 p hp) (fun σ1 l L f1 f2 f3 f4 f5 => ?_)
    refine sp_floorOfRoot f1 f2 f3 (fun σ2 r f6 f7 => ?_)
    show wpX5_place_0 (nI p) a2 _ ρ
    unfold wpX5_place_0
    refine isR5_t hp ⟨fun h1 => absurd h1 (by decide), fun _ => ⟨pk_in p _ (by omega), ?_⟩⟩
    rw [nI_clamp (by omega), (hF.1 p hp).2.2, deg_neg hdx]
    refine ⟨fun h6 => absurd h6 h4, fun _ => ⟨fun _ => ?_, fun h6 => absurd h5 h6⟩⟩
    refine sp_rchain hp (hF.1 p hp) h4 (hC.2.1 p hp) (fun ρ1 S s1 s2 s3 s4 s5 => ?_)
    obtain ⟨l', M, hRC, hRCh⟩ := chf_rc s4
    obtain ⟨al1, al2, al3⟩ := alike (hF.1 p hp).2.1 f4 s1 hRCh s2 s3
    refine sp_rplace hRC (fun ρ2 r1 g1 g2 => ⟨?_, c, h, ?_, ?_, hH⟩)
    · apply Int64.toInt_inj.mp
      rw [f6, g1, plc_flr hRC.1 s1 hRCh, al3]
    · exact hC.cx hH (f5.trans (tC_cx f7))
    · exact hF.cz (s5.trans (tm_cz g2))
  · refine isR4_f e ⟨fun _ => ?_, fun h1 => absurd rfl h1⟩
    show wpX5_place_0 a1 a2 _ ρ
    unfold wpX5_place_0 wpX5_place_24
    exact isR5_f e ⟨fun _ => ⟨rfl, hR'⟩, fun h1 => absurd rfl h1⟩
theorem law_step : LawStep Rel :=
  ⟨st_coefficient, st_word, st_add, st_multiply, st_derive, st_shift, st_remainder, st_quotient, st_gcd, st_once, st_sign, st_roots, st_allRoots, st_place, st_degree, st_signOf, st_words, st_wordOf, st_same⟩
theorem rel_0 : Rel σ0 ρ0 := by
  refine ⟨fun _ _ => 0, none, ⟨fun p hp => ⟨fun i hi => ⟨0, Nat.zero_le _, rfl, fun k hk => absurd hk (by omega), fun h => absurd rfl h, rfl, rfl⟩, fun _ _ => rfl, ?_⟩, fun p hp i => Nat.pow_pos (by omega), rfl⟩, ⟨fun p hp => ⟨fun i hi => ⟨0, fun _ => 0, Nat.zero_le _, rfl, fun k hk => absurd hk (by omega), fun h => absurd rfl h, rfl, rfl⟩, fun _ _ => rfl, ?_⟩, rfl⟩, trivial⟩
  · rw [dl_0]
    rfl
  · rw [dl_0]
    rfl
