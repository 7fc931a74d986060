/-! PURE: the bench: sum, times, move -/
theorem dg_lt0 {k : Nat} (hk : k < 1000000) : nI k - 1 < 0 ↔ k = 0 := by
  rw [Int32.lt_iff_toInt_lt, show (nI k - 1).toInt = (k : Int) - 1 from pk_sub_toInt (a := k) (b := 1) (by omega) (by omega)]
  show (k : Int) - 1 < 0 ↔ _
  omega
theorem lp_up {B : (Int32 → CS → Prop) → Int32 → CS → Prop} (I : Nat → CS → Prop) (n : Nat) (hn : n < 1000000) (hs : ∀ N k τ, k ≤ n → I k τ → (∀ τ', k < n → I (k + 1) τ' → N (nI k + 1) τ') → B N (nI k) τ) (σ : CS) (h : I 0 σ) : ∃ m, lq2 B m (0 : Int32) σ := by
  refine lq2_i (I := fun a τ => ∃ k, k ≤ n ∧ a = nI k ∧ I k τ) (μ := fun a _ => n - a.toNatClampNeg) ?_ _ _ ⟨0, Nat.zero_le _, rfl, h⟩
  rintro N a τ ⟨k, hk, rfl, hI⟩ hN
  refine hs N k τ hk hI (fun τ' h1 h2 => hN _ _ ⟨k + 1, h1, nI_1 k, h2⟩ ?_)
  show n - (nI k + 1).toNatClampNeg < n - (nI k).toNatClampNeg
  rw [nI_1, nI_clamp (by omega), nI_clamp (by omega)]
  omega
theorem lp_dn {B : (Int32 → CS → Prop) → Int32 → CS → Prop} (I : Nat → CS → Prop) (n : Nat) (hn : n < 1000000) (hs : ∀ N k τ, k ≤ n → I k τ → (∀ k' τ', k = k' + 1 → I k' τ' → N (nI k' + (-1)) τ') → B N (nI k - 1) τ) (σ : CS) (h : I n σ) {a : Int32} (ha : a = nI n - 1) : ∃ m, lq2 B m a σ := by
  refine lq2_i (I := fun a τ => ∃ k, k ≤ n ∧ a = nI k - 1 ∧ I k τ) (μ := fun a _ => (a + 1).toNatClampNeg) ?_ _ _ ⟨n, Nat.le_refl _, ha, h⟩
  rintro N a τ ⟨k, hk, rfl, hI⟩ hN
  refine hs N k τ hk hI (fun k' τ' h1 h2 => hN _ _ ⟨k', by omega, (Int32.sub_eq_add_neg _ _).symm, h2⟩ ?_)
  show (nI k' + (-1) + 1).toNatClampNeg < (nI k - 1 + 1).toNatClampNeg
  subst h1
  rw [m1p1, deg_s (by omega), Nat.add_sub_cancel, nI_1, nI_clamp (by omega), nI_clamp (by omega)]
  omega
theorem lp_up3 {A : Type} {B : (A → Int32 → CS → Prop) → A → Int32 → CS → Prop} (x : A) (I : Nat → CS → Prop) (n : Nat) (hn : n < 1000000) (hs : ∀ N k τ, k ≤ n → I k τ → (∀ τ', k < n → I (k + 1) τ' → N x (nI k + 1) τ') → B N x (nI k) τ) (σ : CS) (h : I 0 σ) : ∃ m, lq3 B m x (0 : Int32) σ := by
  refine lq3_i (I := fun y a τ => y = x ∧ ∃ k, k ≤ n ∧ a = nI k ∧ I k τ) (μ := fun _ a _ => n - a.toNatClampNeg) ?_ _ _ _ ⟨rfl, 0, Nat.zero_le _, rfl, h⟩
  rintro N y a τ ⟨rfl, k, hk, rfl, hI⟩ hN
  refine hs N k τ hk hI (fun τ' h1 h2 => hN _ _ _ ⟨rfl, k + 1, h1, nI_1 k, h2⟩ ?_)
  show n - (nI k + 1).toNatClampNeg < n - (nI k).toNatClampNeg
  rw [nI_1, nI_clamp (by omega), nI_clamp (by omega)]
  omega
theorem lp_dn3 {A : Type} {B : (A → Int32 → CS → Prop) → A → Int32 → CS → Prop} (x : A) (I : Nat → CS → Prop) (n : Nat) (hn : n < 1000000) (hs : ∀ N k τ, k ≤ n → I k τ → (∀ k' τ', k = k' + 1 → I k' τ' → N x (nI k' + (-1)) τ') → B N x (nI k - 1) τ) (σ : CS) (h : I n σ) {a : Int32} (ha : a = nI n - 1) : ∃ m, lq3 B m x a σ := by
  refine lq3_i (I := fun y a τ => y = x ∧ ∃ k, k ≤ n ∧ a = nI k - 1 ∧ I k τ) (μ := fun _ a _ => (a + 1).toNatClampNeg) ?_ _ _ _ ⟨rfl, n, Nat.le_refl _, ha, h⟩
  rintro N y a τ ⟨rfl, k, hk, rfl, hI⟩ hN
  refine hs N k τ hk hI (fun k' τ' h1 h2 => hN _ _ _ ⟨rfl, k', by omega, (Int32.sub_eq_add_neg _ _).symm, h2⟩ ?_)
  show (nI k' + (-1) + 1).toNatClampNeg < (nI k - 1 + 1).toNatClampNeg
  subst h1
  rw [m1p1, deg_s (by omega), Nat.add_sub_cancel, nI_1, nI_clamp (by omega), nI_clamp (by omega)]
  omega
theorem lp_up4 {A A2 : Type} {B : (A → A2 → Int32 → CS → Prop) → A → A2 → Int32 → CS → Prop} (x : A) (x2 : A2) (I : Nat → CS → Prop) (n : Nat) (hn : n < 1000000) (hs : ∀ N k τ, k ≤ n → I k τ → (∀ τ', k < n → I (k + 1) τ' → N x x2 (nI k + 1) τ') → B N x x2 (nI k) τ) (σ : CS) (h : I 0 σ) : ∃ m, lq4 B m x x2 (0 : Int32) σ := by
  refine lq4_i (I := fun y y2 a τ => y = x ∧ y2 = x2 ∧ ∃ k, k ≤ n ∧ a = nI k ∧ I k τ) (μ := fun _ _ a _ => n - a.toNatClampNeg) ?_ _ _ _ _ ⟨rfl, rfl, 0, Nat.zero_le _, rfl, h⟩
  rintro N y y2 a τ ⟨rfl, rfl, k, hk, rfl, hI⟩ hN
  refine hs N k τ hk hI (fun τ' h1 h2 => hN _ _ _ _ ⟨rfl, rfl, k + 1, h1, nI_1 k, h2⟩ ?_)
  show n - (nI k + 1).toNatClampNeg < n - (nI k).toNatClampNeg
  rw [nI_1, nI_clamp (by omega), nI_clamp (by omega)]
  omega
theorem lt_cap {a k m : Nat} (h : a < 2147483648 ^ k) (hk : k ≤ m) : a < 2147483648 ^ m := Nat.lt_of_lt_of_le h (pow_mono hk)
theorem bd_dbl {a b k : Nat} (ha : a < 2147483648 ^ k) (hb : b < 2147483648 ^ k) : a + b < 2147483648 ^ (k + 1) := by
  rw [Nat.pow_succ]
  generalize 2147483648 ^ k = z at *
  omega
theorem bd_add {a b : Int} {k : Nat} (ha : a.natAbs < 2147483648 ^ k) (hb : b.natAbs < 2147483648 ^ k) : (a + b).natAbs < 2147483648 ^ (k + 1) :=
  Nat.lt_of_le_of_lt (Int.natAbs_add_le a b) (bd_dbl ha hb)
theorem bd_mul {a b : Int} {j k : Nat} (ha : a.natAbs < 2147483648 ^ j) (hb : b.natAbs < 2147483648 ^ k) : (a * b).natAbs < 2147483648 ^ (j + k) := by
  rw [Int.natAbs_mul, Nat.pow_add]
  exact Nat.mul_lt_mul'' ha hb
/-- what the bench changes: the work and the row of its own numbers -/
def bS (w : Nat) : Prop := inP 8 w ∨ (320 ≤ w ∧ w < 324)
def bD (p : Nat) : Prop := p = 8
theorem Ch.b8 {σ σ' : CS} {i : Nat} (h : Ch σ σ' (fun z => z = 16 * 8 + i)) (hi : i < 16) : Cg σ σ' bS bD := (h.p hi).mono (fun _ z => Or.inl z) (fun _ z => z.elim)
theorem Ch.b3 {σ σ' : CS} {n : Nat} (h : Ch σ σ' (fun z => z = n)) (hn : 320 ≤ n ∧ n < 324) : Cg σ σ' bS bD := (h.cg bD).mono (fun w hw => Or.inr (by omega)) (fun _ z => z)
theorem Pl.b {σ σ' : CS} {p : Nat} {c : Nat → Int} (h : Pl σ p c) (hc : Cg σ σ' bS bD) (hp : p ≠ 8) (hp2 : p < 20) : Pl σ' p c :=
  h.cg hc (fun w hw z => by rcases z with z | z; exact inP_ne hp hw z; exact absurd hw.2 (by omega)) hp
theorem tlen8 : tlen 8 = 9 := rfl
theorem cap8 {i : Nat} (h : i < 9) : capW (16 * 8 + i) = 300 := cap_t 8 (by omega) i h
theorem capT {w : Nat} (h : 320 ≤ w) (h1 : w ≠ 324) (h2 : w ≠ 325) : capW w = 300 := by
  unfold capW
  rw [if_neg (by omega), if_neg (by omega), if_neg (by omega), if_neg (by omega), if_neg (by omega)]
/-- the terms of the work -/
def Wk (σ : CS) (c : Nat → Int) : Prop := ∀ i, i < 9 → RpW σ (16 * 8 + i) (c i)
theorem Pl.wk {σ : CS} {c : Nat → Int} (h : Pl σ 8 c) : Wk σ c := h.1
theorem Pl.top {σ : CS} {p : Nat} {c : Nat → Int} (h : Pl σ p c) {i : Nat} (hi : 9 ≤ i) : c i = 0 := h.2.1 i (Nat.le_trans (tlen_le p) hi)
theorem sp_measure8 {c : Nat → Int} {σ σ0 : CS} {Q : CS → Prop} (h1 : Wk σ c) (h2 : ∀ i, 9 ≤ i → c i = 0) (hC : Cg σ0 σ bS bD) (hQ : ∀ σ', Pl σ' 8 c → Cg σ0 σ' bS bD → Q σ') : wpX2_measure 8 σ Q :=
  sp_measure (by omega) h1 h2 (fun σ' h3 h4 => hQ σ' h3 (hC.trans (h4.mono (fun _ z => z.elim) (fun _ z => z))))
/-- what is put into one term -/
def pu (c : Nat → Int) (k : Nat) (v : Int) (i : Nat) : Int := if i = k then v else c i
theorem pu_e (c : Nat → Int) (k : Nat) (v : Int) : pu c k v k = v := if_pos rfl
theorem pu_n {c : Nat → Int} {k i : Nat} {v : Int} (h : i ≠ k) : pu c k v i = c i := if_neg h
theorem Wk.pu {σ σ' : CS} {c : Nat → Int} {k : Nat} {v : Int} (h : Wk σ c) (hc : Ch σ σ' (fun z => z = 16 * 8 + k)) (hr : RpW σ' (16 * 8 + k) v) : Wk σ' (pu c k v) := by
  intro i hi
  by_cases e : i = k
  · subst e
    rw [pu_e]
    exact hr
  · rw [pu_n e]
    exact (h i hi).ch hc (by omega)
theorem Wk.t {σ σ' : CS} {c : Nat → Int} {n : Nat} (h : Wk σ c) (hc : Ch σ σ' (fun z => z = n)) (hn : 320 ≤ n) : Wk σ' c := fun i hi => (h i hi).ch hc (by omega)
theorem Wk.congr {σ : CS} {c d : Nat → Int} (h : Wk σ c) (he : ∀ i, i < 9 → d i = c i) : Wk σ d := fun i hi => by rw [he i hi]; exact h i hi
theorem sp_loadWork {p : Nat} {c : Nat → Int} {σ : CS} {Q : CS → Prop} (hp : p ≠ 8) (h : Pl σ p c) (hb : ∀ i, (c i).natAbs < 2147483648 ^ 300) (hQ : ∀ σ', Pl σ' 8 c → Cg σ σ' bS bD → Q σ') : wpX2_load 8 p σ Q :=
  sp_pload (by omega) (Ne.symm hp) h (fun i _ => hb i) (fun i hi => h.top (by rw [tlen8] at hi; exact hi)) (fun σ' h1 h2 => hQ σ' h1 (h2.mono (fun _ z => Or.inl z) (fun _ z => z)))
def sgn32 (x3 : Int32) (v : Int) : Int := if 0 ≤ x3 then v else -v
theorem sgn32_abs (x3 : Int32) (v : Int) : (sgn32 x3 v).natAbs = v.natAbs := by
  unfold sgn32
  split
  · rfl
  · exact Int.natAbs_neg v
theorem sgn32_0 (x3 : Int32) : sgn32 x3 0 = 0 := by
  unfold sgn32
  split <;> rfl
theorem sp_sum {p1 p2 : Nat} {x3 : Int32} {c d : Nat → Int} {σ : CS} {Q : CS → Prop} (hp1 : p1 < 8) (hp2 : p2 < 8) (h1 : Pl σ p1 c) (h2 : Pl σ p2 d) (hb1 : ∀ i, (c i).natAbs < 2147483648 ^ 6) (hb2 : ∀ i, (d i).natAbs < 2147483648 ^ 6)
    (hQ : ∀ σ', Pl σ' 8 (fun i => c i + sgn32 x3 (d i)) → Cg σ σ' bS bD → Q σ') : wpX0_sum p1 p2 x3 σ Q := by
  show wpX0_sum_0 p1 p2 x3 Q σ
  unfold wpX0_sum_0
  refine sp_loadWork (by omega) h1 (fun i => lt_cap (hb1 i) (by omega)) (fun σ1 hP1 hC1 => ?_)
  have hdl := dl_le d
  refine lp_up (I := fun k τ => Wk τ (fun i => if i < k then c i + sgn32 x3 (d i) else c i) ∧ Cg σ τ bS bD) (dl d) (by omega) ?_ σ1 ⟨hP1.wk.congr (fun i hi => if_neg (by omega)), hC1⟩
  rintro N k τ hk ⟨hW, hC⟩ hN
  have hPy : Pl τ p2 d := h2.b hC (by omega) (by omega)
  unfold wbX0_sum_11 wpX0_sum_54
  have hly := hPy.len
  have t2 := tlen_le p2
  have t8 := tlen8
  rw [hPy.2.2, deg_lt hdl (by omega), nI_clamp (by omega)]
  have hfin : dl d ≤ k → wpX2_measure 8 τ Q := fun hk2 => sp_measure8 (c := fun i => c i + sgn32 x3 (d i)) (hW.congr (fun i hi => by
    by_cases e : i < k
    · rw [if_pos e]
    · rw [if_neg e, hPy.zero (by omega), sgn32_0, Int.add_zero])) (fun i hi => by rw [h1.top hi, h2.top hi, sgn32_0]; rfl) hC hQ
  refine ⟨hfin, fun hk2 => pk_lt 8 k (fun h3 => absurd h3 (by omega)) (fun _ => ⟨pk_in k _ (by omega), pk_in k _ (by omega), ?_⟩) rfl rfl (by omega) (by omega)⟩
  have hk9 : k < 9 := by omega
  have hr := hW k hk9
  dsimp only at hr
  rw [if_neg (by omega)] at hr
  refine sp_plus (s := sgn32 x3 (d k)) (by omega) hr (hPy.1 k (by omega)) rfl ?_ ?_ (fun τ2 hr2 hc2 a7 ha7 => ?_)
  · rw [cap8 hk9]
    exact lt_cap (hb2 k) (by omega)
  · rw [cap8 hk9]
    exact lt_cap (bd_add (hb1 k) (by rw [sgn32_abs]; exact hb2 k)) (by omega)
  · subst ha7
    refine hN τ2 (by omega) ⟨(hW.pu hc2 hr2).congr (fun i hi => ?_), hC.trans (hc2.b8 (by omega))⟩
    by_cases e : i = k
    · subst e
      rw [pu_e, if_pos (by omega)]
    · rw [pu_n e]
      by_cases e2 : i < k
      · rw [if_pos e2, if_pos (by omega)]
      · rw [if_neg e2, if_neg (by omega)]
/-- the sum of c 0 d m .. c (n - 1) d (m - n + 1) -/
def pm (c d : Nat → Int) : Nat → Nat → Int
  | 0, _ => 0
  | n + 1, m => pm c d n m + (if n ≤ m then c n * d (m - n) else 0)
theorem pm_s (c d : Nat → Int) (n m : Nat) : pm c d (n + 1) m = pm c d n m + (if n ≤ m then c n * d (m - n) else 0) := rfl
theorem pm_bd {c d : Nat → Int} {X : Nat} (h : ∀ i j, (c i * d j).natAbs ≤ X) (n m : Nat) : (pm c d n m).natAbs ≤ n * X := by
  induction n with
  | zero => show (0 : Int).natAbs ≤ _; simp
  | succ n ih =>
    rw [pm_s, Nat.succ_mul]
    refine Nat.le_trans (Int.natAbs_add_le _ _) (Nat.add_le_add ih ?_)
    split
    · exact h _ _
    · exact Nat.zero_le _
theorem pm_ext {c d : Nat → Int} {n n2 m : Nat} (hn : n ≤ n2) (h : ∀ i, n ≤ i → c i = 0) : pm c d n2 m = pm c d n m := by
  induction n2 with
  | zero =>
    have : n = 0 := by omega
    rw [this]
  | succ k ih =>
    rcases Nat.eq_or_lt_of_le hn with e | e
    · rw [e]
    · rw [pm_s, ih (by omega), h k (by omega), Int.zero_mul, ite_self, Int.add_zero]
theorem bd_9 {x X k : Nat} (h : x ≤ 10 * X) (hX : X < 2147483648 ^ k) : x < 2147483648 ^ (k + 1) := by
  rw [Nat.pow_succ]
  generalize 2147483648 ^ k = z at *
  omega
theorem sp_times {p1 p2 : Nat} {c d : Nat → Int} {σ : CS} {Q : CS → Prop} (hp1 : p1 < 8) (hp2 : p2 < 8) (h1 : Pl σ p1 c) (h2 : Pl σ p2 d) (hb1 : ∀ i, (c i).natAbs < 2147483648 ^ 6) (hb2 : ∀ i, (d i).natAbs < 2147483648 ^ 6) (hdeg : dl c + dl d ≤ 10)
    (hQ : ∀ σ', Pl σ' 8 (fun m => pm c d 9 m) → Cg σ σ' bS bD → Q σ') : wpX0_times p1 p2 σ Q := by
  show wpX0_times_0 p1 p2 Q σ
  unfold wpX0_times_0
  have hdl := dl_le d
  have hdc := dl_le c
  have hcd : ∀ i j, (c i * d j).natAbs ≤ 2147483648 ^ 12 := fun i j => Nat.le_of_lt (bd_mul (j := 6) (k := 6) (hb1 i) (hb2 j))
  have hpb : ∀ n m, n ≤ 9 → (pm c d n m).natAbs < 2147483648 ^ 14 := fun n m hn => bd_9 (k := 13) (Nat.le_trans (pm_bd hcd n m) (Nat.mul_le_mul_right _ (by omega))) (Nat.pow_lt_pow_right (by omega) (by omega))
  refine sp_pclear (by omega) (fun σ1 hP1 hC1 => ?_)
  refine lp_up (I := fun k τ => Wk τ (pm c d k) ∧ Cg σ τ bS bD) (dl c) (by omega) ?_ σ1 ⟨hP1.wk.congr (fun i hi => rfl), hC1.mono (fun _ z => Or.inl z) (fun _ z => z)⟩
  rintro N k τ hk ⟨hW, hC⟩ hN
  have hPx : Pl τ p1 c := h1.b hC (by omega) (by omega)
  have hPy : Pl τ p2 d := h2.b hC (by omega) (by omega)
  unfold wbX0_times_9
  rw [hPx.2.2, deg_lt hdc (by omega)]
  refine ⟨fun hk2 => ?_, fun hk2 => ?_⟩
  · have hlx := hPx.len
    refine sp_measure8 (c := fun m => pm c d 9 m) (hW.congr (fun i hi => pm_ext (by omega) (fun j hj => hPx.zero (by omega)))) (fun m hm => ?_) hC hQ
    have : ∀ n, pm c d n m = 0 := by
      intro n
      induction n with
      | zero => rfl
      | succ n ih =>
        rw [pm_s, ih]
        rcases Nat.lt_or_ge n (dl c) with e | e
        · rw [hPy.zero (show dl d ≤ m - n by omega), Int.mul_zero, ite_self]; rfl
        · rw [hPx.zero e, Int.zero_mul, ite_self]; rfl
    exact this 9
  · have hlx := hPx.len
    have hly := hPy.len
    have t1 := tlen_le p1
    have t2 := tlen_le p2
    have t8 := tlen8
    refine lp_up3 (nI k) (I := fun j τ => Wk τ (fun m => pm c d k m + (if k ≤ m ∧ m - k < j then c k * d (m - k) else 0)) ∧ Cg σ τ bS bD) (dl d) (by omega) ?_ τ ⟨hW.congr (fun i hi => by rw [if_neg (by omega), Int.add_zero]), hC⟩
    rintro N2 j τ2 hj ⟨hW2, hC2⟩ hN2
    have hPx2 : Pl τ2 p1 c := h1.b hC2 (by omega) (by omega)
    have hPy2 : Pl τ2 p2 d := h2.b hC2 (by omega) (by omega)
    unfold wbX0_times_20 wpX0_times_84
    rw [hPy2.2.2, deg_lt hdl (by omega), nI_clamp (by omega), nI_clamp (by omega), nI_add, nI_clamp (by omega)]
    refine ⟨fun hj2 a1 ha1 => ?_, fun hj2 => pk_lt 8 (k + j) (fun h3 => absurd h3 (by omega)) (fun _ => ⟨pk_in k _ (by omega), pk_in j _ (by omega), ?_⟩) rfl rfl (by omega) (by omega)⟩
    · subst ha1
      refine hN τ2 (by omega) ⟨hW2.congr (fun m hm => ?_), hC2⟩
      rw [pm_s]
      by_cases e : k ≤ m
      · rw [if_pos e]
        by_cases e2 : m - k < j
        · rw [if_pos ⟨e, e2⟩]
        · rw [if_neg (fun h => e2 h.2), hPy2.zero (show dl d ≤ m - k by omega), Int.mul_zero]
      · rw [if_neg e, if_neg (fun h => e h.1)]
    · refine sp_product (a := 6) (b := 6) (by omega) (by omega) (hPx2.1 k (by omega)) (hPy2.1 j (by omega)) (hb1 k) (hb2 j) (by rw [capT] <;> omega) (fun τ3 hr3 hc3 => ⟨pk_in (k + j) _ (by omega), ?_⟩)
      have hkj : k + j < 9 := by omega
      have hr := (hW2.t hc3 (by omega)) (k + j) hkj
      dsimp only at hr
      rw [if_neg (by omega), Int.add_zero] at hr
      refine sp_plus (s := c k * d j) (by omega) hr hr3 (if_pos (by decide)).symm ?_ ?_ (fun τ4 hr4 hc4 a9 ha9 => ?_)
      · rw [cap8 hkj]
        exact lt_cap (bd_mul (hb1 k) (hb2 j)) (by omega)
      · rw [cap8 hkj]
        exact lt_cap (bd_add (hpb k (k + j) (by omega)) (lt_cap (bd_mul (hb1 k) (hb2 j)) (by omega))) (by omega)
      · subst ha9
        refine hN2 τ4 (by omega) ⟨((hW2.t hc3 (by omega)).pu hc4 hr4).congr (fun m hm => ?_), (hC2.trans (hc3.b3 (by omega))).trans (hc4.b8 (by omega))⟩
        by_cases e : m = k + j
        · subst e
          rw [pu_e, if_pos (by omega), Nat.add_sub_cancel_left]
        · rw [pu_n e]
          by_cases e2 : k ≤ m ∧ m - k < j
          · rw [if_pos e2, if_pos (by omega)]
          · rw [if_neg e2, if_neg (by omega)]
