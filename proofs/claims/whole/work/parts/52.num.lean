/-! PURE: join, differ, plus -/
def ext (f : Nat → Int32) (n i : Nat) : Nat := if i < n then dg f i else 0
def mg (a : Nat → Nat) : Nat → Nat
  | 0 => 0
  | n + 1 => mg a n + a n * 2147483648 ^ n
theorem mg_s (a : Nat → Nat) (n : Nat) : mg a (n + 1) = mg a n + a n * 2147483648 ^ n := rfl
theorem mg_ext {f : Nat → Int32} {n k : Nat} (h : n ≤ k) : mg (ext f n) k = mag f n := by
  induction k with
  | zero =>
    have : n = 0 := by omega
    subst this
    rfl
  | succ k ih =>
    rcases Nat.eq_or_lt_of_le h with e | e
    · subst e
      clear ih h
      have : ∀ j, j ≤ k + 1 → mg (ext f (k + 1)) j = mag f j := by
        intro j
        induction j with
        | zero => intro _; rfl
        | succ j ih => intro hj; rw [mg_s, mag_s, ih (by omega), ext, if_pos (by omega)]
      exact this _ (Nat.le_refl _)
    · rw [mg_s, ih (by omega), ext, if_neg (by omega)]
      omega
theorem ext_lt (f : Nat → Int32) (n i : Nat) : ext f n i < 2147483648 := by
  unfold ext
  split
  · exact dg_lt f i
  · omega
theorem sF_sFi (σ : CS) (w : Nat) (f : Nat → Int32) (i x : Int32) : sFi (sF σ w f) w i x = sF σ w (upd f i.toNatClampNeg x) := by
  unfold sFi
  rw [cF_sF]
  unfold sF
  show (va_up (va_up σ.1 w f) w _, σ.2) = _
  rw [bx_uu]
theorem sF_self (σ : CS) (w : Nat) : sF σ w (cF σ w) = σ := by
  obtain ⟨a, b⟩ := σ
  unfold sF cF
  have e : va_up a w (a w) = a := by
    funext j
    unfold va_up
    by_cases hj : j = w
    · subst hj
      rw [if_pos rfl]
    · rw [if_neg hj]
  show (va_up a w (a w), b) = (a, b)
  rw [e]
/-- one digit of a sum -/
theorem dig_add {a b c : Nat} (ha : a < 2147483648) (hb : b < 2147483648) (hc : c ≤ 1) : ∃ r c', r < 2147483648 ∧ c' ≤ 1 ∧ a + b + c = r + c' * 2147483648 ∧ (nI a + nI b + nI c) &&& (2147483647 : Int32) = nI r ∧ jushr (nI a + nI b + nI c) (31 : Int32) = nI c' := by
  refine ⟨(a + b + c) % 2147483648, (a + b + c) / 2147483648, Nat.mod_lt _ (by omega), by omega, by omega, ?_, ?_⟩
  · rw [nI_add, nI_add, pk_andN (by omega) 31 (by decide)]
  · unfold jushr
    rw [nI_add, nI_add, pk_ushrN (by omega) 31 31 (by decide)]
theorem dig_sub {a b c : Nat} (ha : a < 2147483648) (hb : b < 2147483648) (hc : c ≤ 1) : ∃ r c', r < 2147483648 ∧ c' ≤ 1 ∧ a + c' * 2147483648 = r + b + c ∧ (nI a - nI b - nI c) &&& (2147483647 : Int32) = nI r ∧ jushr (nI a - nI b - nI c) (31 : Int32) = nI c' := by
  by_cases h : b + c ≤ a
  · refine ⟨a - b - c, 0, by omega, by omega, by omega, ?_, ?_⟩
    · rw [pk_sub (by omega), pk_sub (by omega), pk_andN (by omega) 31 (by decide)]
      congr 1
      omega
    · unfold jushr
      rw [pk_sub (by omega), pk_sub (by omega), pk_ushrN (by omega) 31 31 (by decide)]
      congr 1
      omega
  · have e : nI a - nI b - nI c = nI (4294967296 + a - b - c) := by
      have h0 : nI 4294967296 = 0 := by decide
      have h1 : nI (4294967296 + a - b - c) + nI (b + c) = nI a := by
        rw [nI_add, show 4294967296 + a - b - c + (b + c) = 4294967296 + a by omega, ← nI_add, h0, Int32.zero_add]
      rw [← h1, ← nI_add]
      generalize nI (4294967296 + a - b - c) = u
      generalize nI b = v
      generalize nI c = t
      rw [Int32.sub_eq_add_neg, Int32.sub_eq_add_neg, Int32.add_assoc, Int32.add_assoc, show v + t + (-v + -t) = 0 by
        rw [Int32.add_comm v t, Int32.add_assoc, ← Int32.add_assoc v, Int32.add_right_neg, Int32.zero_add, Int32.add_right_neg], Int32.add_zero]
    refine ⟨2147483648 + a - b - c, 1, by omega, by omega, by omega, ?_, ?_⟩
    · rw [e, pk_andN (by omega) 31 (by decide)]
      congr 1
      omega
    · unfold jushr
      rw [e, pk_ushrN (by omega) 31 31 (by decide)]
      congr 1
      omega
theorem okd_up {f : Nat → Int32} {k d : Nat} (ho : okd f k) (hd : d < 2147483648) : okd (upd f k (nI d)) (k + 1) := by
  refine okd_of (fun i hi => ?_)
  by_cases e : i = k
  · subst e
    exact ⟨d, hd, upd_e _ _ _⟩
  · exact ⟨dg f i, dg_lt f i, by rw [upd_n e]; exact ho i (by omega)⟩
theorem mag_up {f : Nat → Int32} {k d : Nat} (hd : d < 2147483648) : mag (upd f k (nI d)) (k + 1) = mag f k + d * 2147483648 ^ k := by
  rw [mag_s, dg_nI (d := d) (upd_e _ _ _) hd, mag_congr (g := f) (fun i hi => upd_n (by omega))]
theorem sp_join {w0 w1 n0 n1 : Nat} {σ : CS} {Q : CS → Prop} (h0 : Raw σ w0 n0) (h1 : Raw σ w1 n1) (hne : w0 ≠ w1) (hn1 : n1 ≤ capW w0) (hb : mag (cF σ w0) n0 + mag (cF σ w1) n1 < 2147483648 ^ capW w0)
    (hQ : ∀ σ' n', Raw σ' w0 n' → mag (cF σ' w0) n' = mag (cF σ w0) n0 + mag (cF σ w1) n1 → cG σ' w0 = cG σ w0 → Ch σ σ' (fun z => z = w0) → Q σ') : wpX3_join w0 w1 σ Q := by
  obtain ⟨a1, a2, a3⟩ := h0
  obtain ⟨b1, b2, b3⟩ := h1
  have hc0 := capW_le w0
  have hc1 := capW_le w1
  obtain ⟨e, he, hem⟩ : ∃ e, e = max n0 n1 ∧ e ≤ capW w0 := ⟨_, rfl, by omega⟩
  show wpX3_join_0 w0 w1 Q σ
  unfold wpX3_join_0
  intro m1 hm1 m2 hm2
  have hm1' : m1 = nI e := by
    rw [hm1, a1, b1]
    by_cases h : n0 < n1
    · rw [if_pos ((nI_ltI (by omega) (by omega)).mpr h), he, Nat.max_eq_right (by omega)]
    · rw [if_neg (fun q => h ((nI_ltI (by omega) (by omega)).mp q)), he, Nat.max_eq_left (by omega)]
  rw [hm1', ofN, cap_min hem hc0] at hm2
  subst hm2
  refine lq4_i (I := fun i2 i3 i4 τ => ∃ k c F, i2 = nI e ∧ i3 = nI c ∧ i4 = nI k ∧ k ≤ e ∧ c ≤ 1 ∧ τ = sF σ w0 F ∧ (∀ j, k ≤ j → F j = cF σ w0 j) ∧ okd F k ∧ mag F k + c * 2147483648 ^ k = mg (ext (cF σ w0) n0) k + mg (ext (cF σ w1) n1) k) (μ := fun _ _ i4 _ => e - i4.toNatClampNeg) ?_ _ _ _ _ ⟨0, 0, cF σ w0, rfl, rfl, rfl, by omega, by omega, (sF_self σ w0).symm, fun _ _ => rfl, fun i hi => absurd hi (by omega), rfl⟩
  rintro N i2 i3 i4 τ ⟨k, c, F, rfl, rfl, rfl, hk, hc, rfl, hF, hFo, hsum⟩ hN
  unfold wbX3_join_25
  refine pk_le e k (fun h => ?_) (fun h => ?_) rfl rfl (by omega) (by omega)
  · have hke : k = e := by omega
    subst hke
    rw [mg_ext (by omega), mg_ext (by omega)] at hsum
    refine pk_eq c 0 (fun hc0 => ?_) (fun hc1 => ?_) rfl nI_0.symm (by omega) (by omega)
    · subst hc0
      refine hQ _ k ⟨by rw [cS_sS], hem, ?_⟩ ?_ rfl ((Ch.sF σ w0 F).trans (Ch.sS _ w0 _))
      · rw [cF_sS, cF_sF]; exact hFo
      · rw [cF_sS, cF_sF]; omega
    · have hc' : c = 1 := by omega
      subst hc'
      have hlt : k < capW w0 := by
        rcases Nat.lt_or_ge k (capW w0) with h7 | h7
        · exact h7
        · have := pow_mono h7
          omega
      rw [cS_sS, ofN]
      refine pk_le (capW w0) k (fun h7 => absurd h7 (by omega)) (fun _ => ⟨pk_in k _ hlt, ?_⟩) rfl rfl (by omega) (by omega)
      rw [cS_sFi, cS_sS, nI_1]
      have e1 : cF (sFi (sS (sF σ w0 F) w0 (nI k)) w0 (nI k) (nI 1)) w0 = upd F k (nI 1) := by
        rw [cF_sFi, cF_sS, cF_sF, nI_clamp (by omega)]
      refine hQ _ (k + 1) ⟨by rw [cS_sS], by omega, ?_⟩ ?_ rfl ((Ch.sF σ w0 F).trans ((Ch.sS _ w0 _).trans ((Ch.sFi _ w0 _ _).trans (Ch.sS _ w0 _))))
      · rw [cF_sS, e1]
        exact okd_up hFo (by omega)
      · rw [cF_sS, e1, mag_up (by omega)]
        omega
  · have ea : ext (cF σ w0) n0 k < 2147483648 := ext_lt _ _ _
    have eb : ext (cF σ w1) n1 k < 2147483648 := ext_lt _ _ _
    have key : wpX3_join_75 w0 w1 Q N (nI e) (nI c) (nI k) (nI (ext (cF σ w0) n0 k)) (nI (ext (cF σ w1) n1 k)) (sF σ w0 F) := by
      unfold wpX3_join_75
      intro s1 hs1
      subst hs1
      obtain ⟨r, c', hr, hc', hadd, hand, hshr⟩ := dig_add ea eb hc
      refine ⟨pk_in k _ (by omega), fun s2 hs2 s3 hs3 => ?_⟩
      rw [hand, sF_sFi, nI_clamp (by omega)]
      rw [hshr] at hs2
      rw [nI_1] at hs3
      subst hs2 hs3
      refine hN _ _ _ _ ⟨k + 1, c', upd F k (nI r), rfl, rfl, rfl, by omega, hc', rfl, fun j hj => ?_, okd_up hFo hr, ?_⟩ ?_
      · rw [upd_n (by omega)]
        exact hF j (by omega)
      · rw [mag_up hr, mg_s, mg_s, Nat.pow_succ]
        have h7 : (ext (cF σ w0) n0 k + ext (cF σ w1) n1 k + c) * 2147483648 ^ k = (r + c' * 2147483648) * 2147483648 ^ k := by rw [hadd]
        rw [Nat.add_mul, Nat.add_mul, Nat.add_mul, Nat.mul_assoc, Nat.mul_comm 2147483648] at h7
        omega
      · show e - (nI (k + 1)).toNatClampNeg < e - (nI k).toNatClampNeg
        rw [nI_clamp (by omega), nI_clamp (by omega)]
        omega
    have key2 : wpX3_join_53 w0 w1 Q N (nI e) (nI c) (nI k) (nI (ext (cF σ w0) n0 k)) (sF σ w0 F) := by
      unfold wpX3_join_53
      rw [cS_sF, b1, cF_sF_ne (Ne.symm hne), nI_clamp (by omega)]
      refine pk_le n1 k (fun h7 => ?_) (fun h7 => ⟨pk_in k _ (by omega), fun s4 hs4 => ?_⟩) rfl rfl (by omega) (by omega)
      · rw [show ext (cF σ w1) n1 k = 0 by unfold ext; rw [if_neg (by omega)]] at key
        exact key
      · rw [show ext (cF σ w1) n1 k = dg (cF σ w1) k by unfold ext; rw [if_pos h7]] at key
        rw [hs4, b3 k h7]
        exact key
    rw [cS_sF, a1, cF_sF, nI_clamp (by omega)]
    refine pk_le n0 k (fun h7 => ?_) (fun h7 => ⟨pk_in k _ (by omega), fun s5 hs5 => ?_⟩) rfl rfl (by omega) (by omega)
    · rw [show ext (cF σ w0) n0 k = 0 by unfold ext; rw [if_neg (by omega)]] at key2
      exact key2
    · rw [show ext (cF σ w0) n0 k = dg (cF σ w0) k by unfold ext; rw [if_pos h7]] at key2
      rw [hs5, hF k (Nat.le_refl k), a3 k h7]
      exact key2
theorem sp_differ {w0 w1 w2 n1 n2 : Nat} {σ : CS} {Q : CS → Prop} (h1 : Raw σ w1 n1) (h2 : Raw σ w2 n2) (hw : w0 = w1 ∨ w0 = w2) (hn1 : n1 ≤ capW w0) (hn2 : n2 ≤ n1) (hb : mag (cF σ w2) n2 ≤ mag (cF σ w1) n1)
    (hQ : ∀ σ' n', Raw σ' w0 n' → mag (cF σ' w0) n' = mag (cF σ w1) n1 - mag (cF σ w2) n2 → cG σ' w0 = cG σ w0 → Ch σ σ' (fun z => z = w0) → Q σ') : wpX3_differ w0 w1 w2 σ Q := by
  obtain ⟨a1, a2, a3⟩ := h1
  obtain ⟨b1, b2, b3⟩ := h2
  have hc0 := capW_le w0
  have hc1 := capW_le w1
  have hc2 := capW_le w2
  show wpX3_differ_0 w0 w1 w2 Q σ
  unfold wpX3_differ_0
  intro m2 hm2
  rw [a1, ofN, cap_min hn1 hc0] at hm2
  subst hm2
  refine lq4_i (I := fun i3 i4 i5 τ => ∃ k c F, i3 = nI n1 ∧ i4 = nI c ∧ i5 = nI k ∧ k ≤ n1 ∧ c ≤ 1 ∧ τ = sF σ w0 F ∧ (∀ j, k ≤ j → F j = cF σ w0 j) ∧ okd F k ∧ mag F k + mg (ext (cF σ w2) n2) k = mag (cF σ w1) k + c * 2147483648 ^ k) (μ := fun _ _ i5 _ => n1 - i5.toNatClampNeg) ?_ _ _ _ _ ⟨0, 0, cF σ w0, rfl, rfl, rfl, by omega, by omega, (sF_self σ w0).symm, fun _ _ => rfl, fun i hi => absurd hi (by omega), rfl⟩
  rintro N i3 i4 i5 τ ⟨k, c, F, rfl, rfl, rfl, hk, hc, rfl, hF, hFo, hsum⟩ hN
  unfold wbX3_differ_19
  refine pk_le n1 k (fun h => ?_) (fun h => ?_) rfl rfl (by omega) (by omega)
  · have hke : k = n1 := by omega
    subst hke
    rw [mg_ext hn2] at hsum
    have h8 := mag_lt F k
    have hc' : c = 0 := by
      rcases Nat.eq_or_lt_of_le hc with e | e
      · subst e
        omega
      · omega
    subst hc'
    refine hQ _ k ⟨by rw [cS_sS], hn1, ?_⟩ ?_ rfl ((Ch.sF σ w0 F).trans (Ch.sS _ w0 _))
    · rw [cF_sS, cF_sF]; exact hFo
    · rw [cF_sS, cF_sF]; omega
  · have eF : ∀ v, v = w1 ∨ v = w2 → cF (sF σ w0 F) v k = cF σ v k := by
      intro v hv
      by_cases e : v = w0
      · subst e
        rw [cF_sF]
        exact hF k (Nat.le_refl k)
      · rw [cF_sF_ne e]
    have ea : dg (cF σ w1) k < 2147483648 := dg_lt _ _
    have eb : ext (cF σ w2) n2 k < 2147483648 := ext_lt _ _ _
    have key : wpX3_differ_47 w0 w1 w2 Q N (nI n1) (nI c) (nI k) (nI (ext (cF σ w2) n2 k)) (sF σ w0 F) := by
      unfold wpX3_differ_47
      rw [nI_clamp (by omega), eF w1 (Or.inl rfl), a3 k h]
      refine ⟨pk_in k _ (by omega), fun s1 hs1 => ?_⟩
      subst hs1
      obtain ⟨r, c', hr, hc', hadd, hand, hshr⟩ := dig_sub ea eb hc
      refine ⟨pk_in k _ (by omega), fun s2 hs2 s3 hs3 => ?_⟩
      rw [hand, sF_sFi, nI_clamp (by omega)]
      rw [hshr] at hs2
      rw [nI_1] at hs3
      subst hs2 hs3
      refine hN _ _ _ _ ⟨k + 1, c', upd F k (nI r), rfl, rfl, rfl, by omega, hc', rfl, fun j hj => ?_, okd_up hFo hr, ?_⟩ ?_
      · rw [upd_n (by omega)]
        exact hF j (by omega)
      · rw [mag_up hr, mg_s, mag_s, Nat.pow_succ]
        have h7 : (dg (cF σ w1) k + c' * 2147483648) * 2147483648 ^ k = (r + ext (cF σ w2) n2 k + c) * 2147483648 ^ k := by rw [hadd]
        rw [Nat.add_mul, Nat.add_mul, Nat.add_mul, Nat.mul_assoc, Nat.mul_comm 2147483648] at h7
        omega
      · show n1 - (nI (k + 1)).toNatClampNeg < n1 - (nI k).toNatClampNeg
        rw [nI_clamp (by omega), nI_clamp (by omega)]
        omega
    rw [cS_sF, b1, nI_clamp (by omega), eF w2 (Or.inr rfl)]
    refine pk_le n2 k (fun h7 => ?_) (fun h7 => ⟨pk_in k _ (by omega), fun s4 hs4 => ?_⟩) rfl rfl (by omega) (by omega)
    · rw [show ext (cF σ w2) n2 k = 0 by unfold ext; rw [if_neg (by omega)]] at key
      exact key
    · rw [show ext (cF σ w2) n2 k = dg (cF σ w2) k by unfold ext; rw [if_pos h7]] at key
      rw [hs4, b3 k h7]
      exact key
