/-! PURE: window, numberOfLeadingZeros, guess -/
theorem s_lB : ∀ n, n < 32 → ((nI n &&& 31).toBitVec.smod 32).toNat = n := by decide +kernel
theorem s_uB : ∀ n, n < 32 → (((nI n).toUInt32 &&& Int32.toUInt32 31).toBitVec % 32).toNat = n := by decide +kernel
theorem win_bits {a b u : Nat} (ha : a < 2147483648) (hb : b < 2147483648) (hu : u ≤ 30) : ((nI a <<< (nI u &&& 31)) ||| jushr (nI b) ((31 : Int32) - nI u)) &&& (2147483647 : Int32) = nI ((a * 2 ^ u + b / 2 ^ (31 - u)) % 2147483648) := by
  have e1 : (31 : Int32) - nI u = nI (31 - u) := pk_sub (a := 31) (by omega)
  have e2 : jushr (nI b) (nI (31 - u)) = nI (b / 2 ^ (31 - u)) := pk_ushrN (by omega) _ _ (s_uB _ (by omega))
  rw [e1, e2, pk_and _ 31 (by decide)]
  congr 1
  have e3 : b / 2 ^ (31 - u) < 2 ^ u := by
    rw [Nat.div_lt_iff_lt_mul (Nat.two_pow_pos _), ← Nat.pow_add, show u + (31 - u) = 31 by omega]
    exact hb
  have e4 : b / 2 ^ (31 - u) < 4294967296 := Nat.lt_of_le_of_lt (Nat.div_le_self _ _) (by omega)
  have e5 : (nI a <<< (nI u &&& 31)).toBitVec.toNat = 2 ^ u * (a % 2 ^ (32 - u)) := by
    rw [pk_shl _ _ u (s_lB u (by omega)), pk_tn (by omega), Nat.mul_comm a]
    rw [show (2 : Nat) ^ 32 = 2 ^ u * 2 ^ (32 - u) by rw [← Nat.pow_add]; congr 1; omega]
    exact Nat.mul_mod_mul_left _ _ _
  rw [Int32.toBitVec_or, BitVec.toNat_or, e5, pk_tn e4, ← Nat.two_pow_add_eq_or_of_lt e3]
  have e6 : 2 ^ u * (a % 2 ^ (32 - u)) = (a * 2 ^ u) % 4294967296 := by
    rw [Nat.mul_comm a, show (4294967296 : Nat) = 2 ^ u * 2 ^ (32 - u) by rw [← Nat.pow_add, show u + (32 - u) = 32 by omega]]
    exact (Nat.mul_mod_mul_left _ _ _).symm
  rw [e6]
  show _ % 2147483648 = _
  omega
theorem mg_split (a : Nat → Nat) (i : Nat) : ∀ N, i + 1 ≤ N → ∃ T, mg a N = mg a i + a i * 2147483648 ^ i + T * 2147483648 ^ (i + 1) := by
  intro N
  induction N with
  | zero => intro h; omega
  | succ N ih =>
    intro h
    rcases Nat.eq_or_lt_of_le h with e | e
    · have : N = i := by omega
      subst this
      exact ⟨0, by rw [mg_s]; omega⟩
    · obtain ⟨T, hT⟩ := ih (by omega)
      refine ⟨T + a N * 2147483648 ^ (N - (i + 1)), ?_⟩
      rw [mg_s, hT, Nat.add_mul, Nat.mul_assoc, ← Nat.pow_add, show N - (i + 1) + (i + 1) = N by omega]
      omega
theorem mg_lt {a : Nat → Nat} (h : ∀ i, a i < 2147483648) (n : Nat) : mg a n < 2147483648 ^ n := by
  induction n with
  | zero => exact Nat.one_pos
  | succ n ih =>
    rw [mg_s, Nat.pow_succ]
    have h1 := h n
    have h2 : a n * 2147483648 ^ n ≤ 2147483647 * 2147483648 ^ n := Nat.mul_le_mul_right _ (by omega)
    omega
/-- a digit of a shifted number -/
theorem wnd {f : Nat → Int32} {n i u : Nat} (hu : u ≤ 30) : (mag f n * 2 ^ u / 2147483648 ^ i) % 2147483648 = (ext f n i * 2 ^ u + (if i = 0 then 0 else ext f n (i - 1)) / 2 ^ (31 - u)) % 2147483648 := by
  obtain ⟨T, hT⟩ := mg_split (ext f n) i (n + i + 1) (by omega)
  rw [mg_ext (by omega)] at hT
  have hP : 0 < 2147483648 ^ i := Nat.pow_pos (by omega)
  have h1 : mag f n * 2 ^ u = 2 ^ u * mg (ext f n) i + 2147483648 ^ i * (ext f n i * 2 ^ u + T * 2 ^ u * 2147483648) := by
    rw [hT, Nat.pow_succ]
    grind
  rw [h1, Nat.add_mul_div_left _ _ hP]
  have h2 : 2 ^ u * mg (ext f n) i / 2147483648 ^ i = (if i = 0 then 0 else ext f n (i - 1)) / 2 ^ (31 - u) := by
    rcases Nat.eq_zero_or_pos i with e | e
    · subst e
      rw [if_pos rfl]
      show 2 ^ u * 0 / 1 = 0 / _
      rw [Nat.mul_zero, Nat.zero_div, Nat.zero_div]
    · rw [if_neg (by omega)]
      obtain ⟨j, rfl⟩ : ∃ j, i = j + 1 := ⟨i - 1, by omega⟩
      rw [Nat.add_sub_cancel, mg_s]
      have h3 := mg_lt (ext_lt f n) j
      have hPj : 0 < 2147483648 ^ j := Nat.pow_pos (by omega)
      have h4 : (2147483648 : Nat) ^ (j + 1) = 2 ^ u * (2147483648 ^ j * 2 ^ (31 - u)) := by
        rw [Nat.pow_succ, Nat.mul_left_comm, ← Nat.pow_add, show u + (31 - u) = 31 by omega]
      rw [h4, Nat.mul_div_mul_left _ _ (Nat.two_pow_pos u), ← Nat.div_div_eq_div_mul, Nat.mul_comm (ext f n j), Nat.add_mul_div_left _ _ hPj, Nat.div_eq_of_lt h3, Nat.zero_add]
  rw [h2]
  generalize T * 2 ^ u = t
  omega
theorem sp_window {w n i u : Nat} {σ : CS} {Q : Int64 → CS → Prop} (hr : Raw σ w n) (hu : u ≤ 30) (hi : i ≤ 1000) (hQ : Q (lN ((mag (cF σ w) n * 2 ^ u / 2147483648 ^ i) % 2147483648)) σ) : wpX3_window w (nI i) (nI u) σ Q := by
  obtain ⟨r1, r2, r3⟩ := hr
  have hcap := capW_le w
  rw [wnd hu] at hQ
  have key : ∀ a b : Nat, a < 2147483648 → b < 2147483648 → a = ext (cF σ w) n i → b = (if i = 0 then 0 else ext (cF σ w) n (i - 1)) → wpX3_window_50 w (nI i) (nI u) Q (nI a) (nI b) σ := by
    intro a b ha hb ea eb
    unfold wpX3_window_50
    rw [win_bits ha hb hu, ea, eb, nI_l (by have := Nat.mod_lt (ext (cF σ w) n i * 2 ^ u + (if i = 0 then 0 else ext (cF σ w) n (i - 1)) / 2 ^ (31 - u)) (show 0 < 2147483648 by omega); omega)]
    exact hQ
  have key2 : ∀ a : Nat, a < 2147483648 → a = ext (cF σ w) n i → wpX3_window_23 w (nI i) (nI u) Q (nI a) σ := by
    intro a ha ea
    unfold wpX3_window_23
    rw [r1]
    refine pk_lt i 1 (fun h => ?_) (fun h => ?_) rfl rfl (by omega) (by omega)
    · have : i = 0 := by omega
      subst this
      exact key a 0 ha (by omega) ea rfl
    · have e1 : nI i - 1 = nI (i - 1) := by
        rw [show i = i - 1 + 1 by omega]
        exact nI_pred _
      rw [e1, nI_clamp (by omega)]
      refine pk_lt n i (fun h2 => ?_) (fun h2 => ⟨pk_in (i - 1) _ (by omega), fun a1 ha1 => ?_⟩) rfl rfl (by omega) (by omega)
      · exact key a 0 ha (by omega) ea (by rw [if_neg (by omega)]; unfold ext; rw [if_neg (by omega)])
      · rw [ha1, r3 (i - 1) (by omega)]
        exact key a _ ha (dg_lt _ _) ea (by rw [if_neg (by omega)]; unfold ext; rw [if_pos (by omega)])
  show wpX3_window_0 w (nI i) (nI u) Q σ
  unfold wpX3_window_0 wpX3_window_21
  rw [r1, nI_clamp (by omega)]
  refine ⟨fun h => absurd h (nI_pos (by omega)), fun _ => pk_le n i (fun h2 => ?_) (fun h2 => ⟨pk_in i _ (by omega), fun a2 ha2 => ?_⟩) rfl rfl (by omega) (by omega)⟩
  · exact key2 0 (by omega) (by unfold ext; rw [if_neg (by omega)])
  · rw [ha2, r3 i h2]
    exact key2 _ (dg_lt _ _) (by unfold ext; rw [if_pos h2])
theorem sp_windowN {w n u : Nat} {x1 : Int32} {σ : CS} {Q : Int64 → CS → Prop} (hr : Raw σ w n) (hu : u ≤ 30) (hi : x1 = -1) (hQ : Q (lN 0) σ) : wpX3_window w x1 (nI u) σ Q := by
  subst hi
  show wpX3_window_0 w (-1) (nI u) Q σ
  unfold wpX3_window_0 wpX3_window_21 wpX3_window_23 wpX3_window_47 wpX3_window_50
  refine ⟨fun _ => ⟨fun _ => ?_, fun h => absurd (by decide) h⟩, fun h => absurd (by decide) h⟩
  have := win_bits (a := 0) (b := 0) (u := u) (by omega) (by omega) hu
  rw [show nI 0 = 0 from rfl] at this
  rw [this, Nat.zero_mul, Nat.zero_div]
  exact hQ
