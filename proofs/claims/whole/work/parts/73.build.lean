/-! MATHEMATICS and PURE: the chain is built of subresultants -/
theorem sub_arith {l g h h2 D F n e d : Nat} (hl : 0 < l) (hg : 0 < g) (hh : 0 < h) (hn : 1 ≤ n) (he : e ≤ n) (K : l ^ ((d + 1) * n) * (g ^ n * h ^ (d + n - 1) * D) = (g * h ^ d) ^ n * (l ^ (d + n - e) * F)) (h2e : (d = 0 ∧ h = 1 ∧ h2 = 1) ∨ (1 ≤ d ∧ h2 * h ^ (d - 1) = l ^ d)) : l ^ e * h2 ^ (n - 1) * D = F := by
  rcases h2e with ⟨rfl, rfl, rfl⟩ | ⟨hd, h2e⟩
  · have e1 : l ^ ((0 + 1) * n) = l ^ (0 + n - e) * l ^ e := by rw [← Nat.pow_add]; congr 1; omega
    rw [e1, Nat.pow_zero, Nat.mul_one, Nat.one_pow, Nat.mul_one] at K
    rw [Nat.one_pow, Nat.mul_one]
    have p1 : 0 < g ^ n := Nat.pow_pos hg
    have p2 : 0 < l ^ (0 + n - e) := Nat.pow_pos hl
    refine Nat.eq_of_mul_eq_mul_left (Nat.mul_pos p1 p2) ?_
    generalize g ^ n = x at *
    generalize l ^ (0 + n - e) = y at *
    generalize l ^ e = z at *
    grind
  · obtain ⟨t, rfl⟩ : ∃ t, d = t + 1 := ⟨d - 1, by omega⟩
    obtain ⟨m, rfl⟩ : ∃ m, n = m + 1 := ⟨n - 1, by omega⟩
    rw [Nat.add_sub_cancel] at h2e ⊢
    have e1 : l ^ ((t + 1 + 1) * (m + 1)) = l ^ (t + 1 + (m + 1) - e) * l ^ e * (l ^ (t + 1)) ^ m := by
      rw [← Nat.pow_mul, ← Nat.pow_add, ← Nat.pow_add]
      congr 1
      have : (t + 1 + 1) * (m + 1) = (t + 1) * m + t + m + 2 := by grind
      omega
    have e2 : (g * h ^ (t + 1)) ^ (m + 1) = g ^ (m + 1) * (h ^ (t + 1 + (m + 1) - 1) * (h ^ t) ^ m) := by
      rw [Nat.mul_pow, ← Nat.pow_mul, ← Nat.pow_mul, ← Nat.pow_add]
      congr 2
      have : (t + 1) * (m + 1) = t * m + t + m + 1 := by grind
      omega
    have e3 : (l ^ (t + 1)) ^ m = h2 ^ m * (h ^ t) ^ m := by rw [← h2e, Nat.mul_pow]
    rw [e1, e2, e3] at K
    have p1 : 0 < g ^ (m + 1) := Nat.pow_pos hg
    have p2 : 0 < l ^ (t + 1 + (m + 1) - e) := Nat.pow_pos hl
    have p3 : 0 < h ^ (t + 1 + (m + 1) - 1) := Nat.pow_pos hh
    have p4 : 0 < (h ^ t) ^ m := Nat.pow_pos (Nat.pow_pos hh)
    refine Nat.eq_of_mul_eq_mul_left (Nat.mul_pos (Nat.mul_pos p1 p2) (Nat.mul_pos p3 p4)) ?_
    generalize g ^ (m + 1) = x at *
    generalize l ^ (t + 1 + (m + 1) - e) = y at *
    generalize l ^ e = z at *
    generalize h ^ (t + 1 + (m + 1) - 1) = v at *
    generalize (h ^ t) ^ m = w at *
    generalize h2 ^ m = o at *
    grind
/-- the state of the subresultants -/
def SI (n0 n1 : Nat) (P0 P1 A B : Row) (a b g h : Nat) : Prop := 0 < g ∧ 0 < h ∧ (a = b → h = 1) ∧ ∀ j, j ≤ b → j < a → ∀ k, g ^ (b - j) * h ^ (a - 1 - j) * (Dj n0 n1 P0 P1 j k).natAbs = (Dj a b A B j k).natAbs
theorem si_top {n0 n1 a b g h : Nat} {P0 P1 A B : Row} (hI : SI n0 n1 P0 P1 A B a b g h) (hA : ∀ m, a < m → A m = 0) (hB : ∀ m, b < m → B m = 0) (hBb : B b ≠ 0) (hb : 1 ≤ b) (hba : b ≤ a) (k : Nat) : (red B b (a - b + 1) A k).natAbs = g * h ^ (a - b) * (Dj n0 n1 P0 P1 (b - 1) k).natAbs := by
  obtain ⟨q, hq⟩ := red_id B b (a - b + 1) A
  have h1 := hI.2.2.2 (b - 1) (by omega) (by omega) k
  have h2 := top_step (A := A) (B := B) (W := red B b (a - b + 1) A) (k := k) hB (fun m hm => red_top hB (fun j hj => hA j (by omega)) hm) hb hba hq
  rw [natAbs_pw, Int.natAbs_natCast] at h2
  have h3 := Nat.eq_of_mul_eq_mul_left (Nat.pow_pos (by omega)) h2
  rw [← h3, ← h1, show b - (b - 1) = 1 by omega, Nat.pow_one, show a - 1 - (b - 1) = a - b by omega]
theorem si_low {n0 n1 a b g h : Nat} {P0 P1 A B : Row} (hI : SI n0 n1 P0 P1 A B a b g h) (hB : ∀ m, b < m → B m = 0) (hba : b < a) : (Dj n0 n1 P0 P1 b b).natAbs * h ^ (a - b - 1) = (B b).natAbs ^ (a - b) := by
  have h1 := hI.2.2.2 b (Nat.le_refl _) hba b
  rw [low_step hB hba, Nat.sub_self, Nat.pow_zero, Nat.one_mul, show a - 1 - b = a - b - 1 by omega] at h1
  rw [Nat.mul_comm, h1, ← Nat.pow_succ]
  congr 1
  omega
theorem si_step {n0 n1 a b c g h h2 : Nat} {P0 P1 A B C : Row} (hI : SI n0 n1 P0 P1 A B a b g h) (hB : ∀ m, b < m → B m = 0) (hBb : B b ≠ 0) (hC : ∀ m, c < m → C m = 0) (hcb : c < b) (hba : b ≤ a) (hW : ∀ m, red B b (a - b + 1) A m = -((g * h ^ (a - b) : Nat) : Int) * C m) (hh2 : (a = b ∧ h2 = h) ∨ (b < a ∧ h2 * h ^ (a - b - 1) = (B b).natAbs ^ (a - b))) : SI n0 n1 P0 P1 B C b c (B b).natAbs h2 := by
  obtain ⟨g0, h0, hab, hinv⟩ := hI
  have hl : 0 < (B b).natAbs := by omega
  refine ⟨hl, ?_, fun e => absurd e (by omega), fun j hj hjb k => ?_⟩
  · rcases hh2 with ⟨e, e2⟩ | ⟨e, e2⟩
    · omega
    · rcases Nat.eq_zero_or_pos h2 with z | z
      · rw [z, Nat.zero_mul] at e2
        have : 0 < (B b).natAbs ^ (a - b) := Nat.pow_pos hl
        omega
      · exact z
  · obtain ⟨q, hq⟩ := red_id B b (a - b + 1) A
    have hid : ∀ m, (((B b).natAbs : Int) ^ (a - b + 1)) * A m = -((g * h ^ (a - b) : Nat) : Int) * C m + pm q B (a - b + 1) m := fun m => by rw [hq m, hW m]
    have h1 := chain_step (k := k) hB hC hcb hba hj hid
    rw [natAbs_pw, Int.natAbs_natCast, Int.natAbs_neg, Int.natAbs_natCast, ← hinv j (by omega) (by omega) k, ← Nat.pow_mul] at h1
    refine sub_arith (d := a - b) (n := b - j) (e := c - j) hl g0 h0 (by omega) (by omega) ?_ ?_ |>.trans rfl |> (fun z => by rw [show b - j - 1 = b - 1 - j by omega] at z; exact z)
    · rw [show a - b + (b - j) - 1 = a - 1 - j by omega, show a - b + (b - j) - (c - j) = a - c by omega]
      exact h1
    · rcases hh2 with ⟨e, e2⟩ | ⟨e, e2⟩
      · have := hab e
        exact Or.inl ⟨by omega, this, by omega⟩
      · exact Or.inr ⟨by omega, e2⟩
theorem num16 {N al be a b : Nat} (hN : N ≤ 16) (h1 : al ≤ 1 ∨ al + 2 * a ≤ N) (h2 : be ≤ 1 ∨ be + 2 * a ≤ N + 2) (hb : 1 ≤ b) (hba : b ≤ a) (ha : a ≤ 8) : al + be * (a - b + 1) ≤ 48 := by
  have h3 : be * (a - b + 1) ≤ be * a := Nat.mul_le_mul_left _ (by omega)
  refine Nat.le_trans (Nat.add_le_add_left h3 _) ?_
  clear h3
  rcases (show a = 1 ∨ a = 2 ∨ a = 3 ∨ a = 4 ∨ a = 5 ∨ a = 6 ∨ a = 7 ∨ a = 8 by omega) with e | e | e | e | e | e | e | e <;> subst e <;> omega
theorem num13 {N al be a b : Nat} (hN : N ≤ 13) (h1 : al ≤ 1 ∨ al + 2 * a ≤ N) (h2 : be ≤ 1 ∨ be + 2 * a ≤ N + 2) (hb : 1 ≤ b) (hba : b ≤ a) (ha : a ≤ 8) : al + be * (a - b + 1) ≤ 34 := by
  have h3 : be * (a - b + 1) ≤ be * a := Nat.mul_le_mul_left _ (by omega)
  refine Nat.le_trans (Nat.add_le_add_left h3 _) ?_
  clear h3
  rcases (show a = 1 ∨ a = 2 ∨ a = 3 ∨ a = 4 ∨ a = 5 ∨ a = 6 ∨ a = 7 ∨ a = 8 by omega) with e | e | e | e | e | e | e | e <;> subst e <;> omega
/-- rows of this length, N of them, have room -/
def roomR (R N : Nat) : Prop := (N ≤ 16 ∧ R ^ 16 < 2147483648 ^ 100 ∧ R ^ 48 * 512 < 2147483648 ^ 299) ∨ (N ≤ 13 ∧ R ^ 13 < 2147483648 ^ 100 ∧ R ^ 34 * 512 < 2147483648 ^ 299)
theorem roomR.link {R N m : Nat} (h : roomR R N) (hR : 1 ≤ R) (hm : m ≤ N) : R ^ m < 2147483648 ^ 100 := by
  rcases h with ⟨h1, h2, h3⟩ | ⟨h1, h2, h3⟩
  · exact Nat.lt_of_le_of_lt (Nat.pow_le_pow_right hR (by omega)) h2
  · exact Nat.lt_of_le_of_lt (Nat.pow_le_pow_right hR (by omega)) h2
theorem roomR.work {R N al be a b : Nat} (h : roomR R N) (hR : 1 ≤ R) (h1 : al ≤ 1 ∨ al + 2 * a ≤ N) (h2 : be ≤ 1 ∨ be + 2 * a ≤ N + 2) (hb : 1 ≤ b) (hba : b ≤ a) (ha : a ≤ 8) : R ^ al * (2 * R ^ be) ^ (a - b + 1) < 2147483648 ^ 299 := by
  have e1 : R ^ al * (2 * R ^ be) ^ (a - b + 1) = R ^ (al + be * (a - b + 1)) * 2 ^ (a - b + 1) := by
    rw [Nat.mul_pow, ← Nat.pow_mul, Nat.pow_add]
    grind
  have e2 : 2 ^ (a - b + 1) ≤ 512 := Nat.pow_le_pow_right (n := 2) (by omega) (show a - b + 1 ≤ 9 by omega)
  rw [e1]
  rcases h with ⟨g1, g2, g3⟩ | ⟨g1, g2, g3⟩
  · exact Nat.lt_of_le_of_lt (Nat.mul_le_mul (Nat.pow_le_pow_right hR (num16 g1 h1 h2 hb hba ha)) e2) g3
  · exact Nat.lt_of_le_of_lt (Nat.mul_le_mul (Nat.pow_le_pow_right hR (num13 g1 h1 h2 hb hba ha)) e2) g3
/-- a chain of remainders with factors above 0 -/
def SCp (L : Nat → Row) (l : Nat) : Prop := (∀ i, i ≤ l → dl (L i) ≠ 0 ∧ ∀ m, 9 ≤ m → L i m = 0) ∧ ∀ i, 1 ≤ i → i < l → dl (L (i + 1)) < dl (L i) ∧ ∃ (u s : Int) (q : Row) (n : Nat), 0 < u ∧ 0 < s ∧ ∀ m, u * L (i - 1) m + s * L (i + 1) m = pm q (L i) n m
def SCe (L : Nat → Row) (l : Nat) : Prop := ∃ (u : Int) (q : Row) (n : Nat), 0 < u ∧ ∀ m, u * L (l - 1) m = pm q (L l) n m
theorem pm_const {q B : Row} (hB : ∀ m, 1 ≤ m → B m = 0) (n m : Nat) : pm q B n m = if m < n then q m * B 0 else 0 := by
  induction n with
  | zero => rfl
  | succ n ih =>
    rw [pm_s, ih]
    rcases Nat.lt_or_ge m n with e | e
    · rw [if_pos e, if_neg (by omega), if_pos (by omega), Int.add_zero]
    · rw [if_neg (by omega), if_pos e, Int.zero_add]
      rcases Nat.eq_or_lt_of_le e with e2 | e2
      · rw [if_pos (by omega), e2, Nat.sub_self]
      · rw [if_neg (by omega), hB (m - n) (by omega), Int.mul_zero]
theorem sce_const {L : Nat → Row} {l : Nat} (h9 : ∀ m, 9 ≤ m → L (l - 1) m = 0) (h0 : ∀ m, 1 ≤ m → L l m = 0) (hn : L l 0 ≠ 0) : SCe L l := by
  refine ⟨((L l 0).natAbs : Int), fun m => (if L l 0 < 0 then -1 else 1) * L (l - 1) m, 9, by omega, fun m => ?_⟩
  rw [pm_const h0]
  rcases Nat.lt_or_ge m 9 with e | e
  · rw [if_pos e]
    by_cases h : L l 0 < 0
    · rw [if_pos h, show ((L l 0).natAbs : Int) = -(L l 0) by omega]
      grind
    · rw [if_neg h, show ((L l 0).natAbs : Int) = L l 0 by omega]
      grind
  · rw [if_neg (by omega), h9 m e, Int.mul_zero]
def Cx (σ σ' : CS) (S D : Nat → Prop) : Prop := (∀ w, ¬ S w → cF σ' w = cF σ w ∧ cS σ' w = cS σ w ∧ cG σ' w = cG σ w) ∧ (∀ p, ¬ D p → cD σ' p = cD σ p) ∧ ∀ k, k ≠ 0 → cK σ' k = cK σ k
theorem Cg.cx {σ σ' : CS} {S D : Nat → Prop} (h : Cg σ σ' S D) : Cx σ σ' S D := ⟨h.1, h.2.1, fun k _ => h.2.2 k⟩
theorem Cx.refl (σ : CS) (S D : Nat → Prop) : Cx σ σ S D := (Cg.refl σ S D).cx
theorem Cx.trans {σ σ1 σ2 : CS} {S D : Nat → Prop} (h1 : Cx σ σ1 S D) (h2 : Cx σ1 σ2 S D) : Cx σ σ2 S D := ⟨fun w hw => ⟨(h2.1 w hw).1.trans (h1.1 w hw).1, (h2.1 w hw).2.1.trans (h1.1 w hw).2.1, (h2.1 w hw).2.2.trans (h1.1 w hw).2.2⟩, fun p hp => (h2.2.1 p hp).trans (h1.2.1 p hp), fun k hk => (h2.2.2 k hk).trans (h1.2.2 k hk)⟩
theorem Cx.mono {σ σ' : CS} {S D S2 D2 : Nat → Prop} (h : Cx σ σ' S D) (h1 : ∀ w, S w → S2 w) (h2 : ∀ p, D p → D2 p) : Cx σ σ' S2 D2 := ⟨fun w hw => h.1 w (fun z => hw (h1 w z)), fun p hp => h.2.1 p (fun z => hp (h2 p z)), h.2.2⟩
theorem Pl.cx {σ σ' : CS} {S D : Nat → Prop} {p : Nat} {c : Nat → Int} (h : Pl σ p c) (hc : Cx σ σ' S D) (hS : ∀ w, inP p w → ¬ S w) (hD : ¬ D p) : Pl σ' p c := by
  refine ⟨fun i hi => ?_, h.2.1, by rw [hc.2.1 p hD]; exact h.2.2⟩
  obtain ⟨h1, h2, h3⟩ := hc.1 (16 * p + i) (hS _ ⟨by omega, by have := tlen_le p; omega⟩)
  unfold RpW
  rw [h1, h2, h3]
  exact h.1 i hi
theorem Cx.sK (σ : CS) (v : Int32) (S D : Nat → Prop) : Cx σ (sK σ 0 v) S D := ⟨fun _ _ => ⟨rfl, rfl, rfl⟩, fun _ _ => rfl, fun k hk => up_ne (f := σ.2.2.2.2) hk⟩
theorem cK_sK (σ : CS) (v : Int32) : cK (sK σ 0 v) 0 = v := by
  unfold cK sK
  exact up_eq (f := σ.2.2.2.2) (k := 0)
/-- what the chain changes behind its first two links -/
def kS (w : Nat) : Prop := inP 8 w ∨ (192 ≤ w ∧ w < 328)
def kD (p : Nat) : Prop := p = 8 ∨ (12 ≤ p ∧ p < 20)
theorem Cg.k {σ σ' : CS} (h : Cg σ σ' bS bD) : Cx σ σ' kS kD := h.cx.mono (fun w hw => by rcases hw with hw | hw; exact Or.inl hw; exact Or.inr ⟨by omega, by omega⟩) (fun p hp => Or.inl hp)
theorem Ch.kk {σ σ' : CS} {S : Nat → Prop} (h : Ch σ σ' S) (hs : ∀ w, S w → 320 ≤ w ∧ w < 328) : Cx σ σ' kS kD := ((h.cg kD).mono (fun w hw => Or.inr (by have := hs w hw; omega)) (fun _ z => z)).cx
