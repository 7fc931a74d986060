/-! MATHEMATICS: subresultants: what a step of the chain does with them -/
def shf (r : Nat) (P : Row) : Row := fun m => if r ≤ m then P (m - r) else 0
def rowsOf (P : Row) : Nat → List Row
  | 0 => []
  | n + 1 => shf n P :: rowsOf P n
theorem mem_rows {P : Row} {n : Nat} {r : Row} : r ∈ rowsOf P n ↔ ∃ i, i < n ∧ r = shf i P := by
  induction n with
  | zero => exact ⟨fun h => absurd h (List.not_mem_nil), fun ⟨i, h, _⟩ => absurd h (Nat.not_lt_zero _)⟩
  | succ n ih =>
    show r ∈ shf n P :: rowsOf P n ↔ _
    rw [List.mem_cons, ih]
    constructor
    · rintro (h | ⟨i, h1, h2⟩)
      · exact ⟨n, Nat.lt_succ_self _, h⟩
      · exact ⟨i, by omega, h2⟩
    · rintro ⟨i, h1, h2⟩
      rcases Nat.eq_or_lt_of_le (Nat.le_of_lt_succ h1) with e | e
      · exact Or.inl (e ▸ h2)
      · exact Or.inr ⟨i, e, h2⟩
theorem shf_zero {P : Row} {d i c : Nat} (h : ∀ m, d < m → P m = 0) (hc : d + i < c) : shf i P c = 0 := by
  unfold shf
  split
  · exact h _ (by omega)
  · rfl
def dsc (j : Nat) : Nat → List Nat
  | 0 => []
  | n + 1 => (j + n + 1) :: dsc j n
theorem mem_dsc {j n c : Nat} : c ∈ dsc j n → j < c ∧ c ≤ j + n := by
  induction n with
  | zero => intro h; exact absurd h (List.not_mem_nil)
  | succ n ih =>
    intro h
    rcases List.mem_cons.mp h with e | e
    · omega
    · have := ih e
      omega
theorem dsc_nodup (j n : Nat) : (dsc j n).Nodup := by
  induction n with
  | zero => exact List.nodup_nil
  | succ n ih => exact List.nodup_cons.mpr ⟨fun h => by have := mem_dsc h; omega, ih⟩
def cols (j n k : Nat) : List Nat := dsc j n ++ [k]
theorem cols_s (j n k : Nat) : cols j (n + 1) k = (j + n + 1) :: cols j n k := rfl
theorem cols_nodup {j n k : Nat} (h : k ≤ j) : (cols j n k).Nodup := by
  unfold cols
  rw [List.nodup_append]
  refine ⟨dsc_nodup j n, List.nodup_cons.mpr ⟨List.not_mem_nil, List.nodup_nil⟩, fun a ha b hb => ?_⟩
  have := mem_dsc ha
  rcases List.mem_cons.mp hb with e | e
  · omega
  · exact absurd e (List.not_mem_nil)
/-- the j-th subresultant's coefficient k, of rows of formal degrees a and b -/
def Dj (a b : Nat) (A B : Row) (j k : Nat) : Int := det (cols j (a + b - 2 * j - 1) k) (rowsOf A (b - j) ++ rowsOf B (a - j))
theorem elim1 {b m j N k : Nat} {B : Row} {L : List Row} (hB : ∀ i, b < i → B i = 0) (h : b + m = j + N + 1) (hL : ∀ r, r ∈ L → r (j + N + 1) = 0) : (det (cols j (N + 1) k) (L ++ rowsOf B (m + 1))).natAbs = (B b).natAbs * (det (cols j N k) (L ++ rowsOf B m)).natAbs := by
  rw [cols_s]
  show (Lp (j + N + 1) (det (cols j N k)) (L ++ shf m B :: rowsOf B m)).natAbs = _
  rw [Lp_one (det_alt _) hL (fun s hs => by obtain ⟨i, hi, rfl⟩ := mem_rows.mp hs; exact shf_zero hB (by omega))]
  have : shf m B (j + N + 1) = B b := by
    unfold shf
    rw [if_pos (by omega), show j + N + 1 - m = b by omega]
  rw [this]
theorem elimN {b m j N k : Nat} {B : Row} {L : List Row} (hB : ∀ i, b < i → B i = 0) (h : b + m = j + N + 1) (t : Nat) (hL : ∀ r, r ∈ L → ∀ c, j + N < c → r c = 0) : (det (cols j (N + t) k) (L ++ rowsOf B (m + t))).natAbs = (B b).natAbs ^ t * (det (cols j N k) (L ++ rowsOf B m)).natAbs := by
  induction t with
  | zero => rw [Nat.pow_zero, Nat.one_mul]; rfl
  | succ t ih =>
    rw [← Nat.add_assoc, ← Nat.add_assoc, elim1 hB (by omega) (fun r hr => hL r hr _ (by omega)), ih, Nat.pow_succ', Nat.mul_assoc]
theorem span_op {f : List Row → Int} (hf : Alt f) {B r : Row} {q : Nat → Int} {L : List Row} (n d : Nat) (h : ∀ i, i < d → shf (n + i) B ∈ L) : f ((fun m => r m + shf n (fun x => pm q B d x) m) :: L) = f (r :: L) := by
  induction d with
  | zero =>
    have : (fun m => r m + shf n (fun x => pm q B 0 x) m) = r := funext (fun m => by
      unfold shf
      show r m + (if n ≤ m then (0 : Int) else 0) = _
      rw [ite_self, Int.add_zero])
    rw [this]
  | succ d ih =>
    have : (fun m => r m + shf n (fun x => pm q B (d + 1) x) m) = (fun m => (fun m => r m + shf n (fun x => pm q B d x) m) m + q d * shf (n + d) B m) := funext (fun m => by
      unfold shf
      dsimp only
      by_cases e : n ≤ m
      · rw [if_pos e, if_pos e, pm_s]
        by_cases e2 : d ≤ m - n
        · rw [if_pos e2, if_pos (by omega), show m - n - d = m - (n + d) by omega]
          omega
        · rw [if_neg e2, if_neg (by omega), Int.mul_zero]
          omega
      · rw [if_neg e, if_neg e, if_neg (by omega), Int.mul_zero]
        omega)
    rw [this, row_op hf (q d) (h d (Nat.lt_succ_self _)), ih (fun i hi => h i (by omega))]
theorem rep {f : List Row → Int} (hf : Alt f) {A B R : Row} {u : Int} {q : Nat → Int} {d m : Nat} (hid : ∀ x, u * A x = R x + pm q B d x) (n : Nat) (hn : n + d ≤ m + 1) : u ^ n * f (rowsOf A n ++ rowsOf B m) = f (rowsOf R n ++ rowsOf B m) := by
  induction n generalizing f with
  | zero => rw [Int.pow_zero, Int.one_mul]; rfl
  | succ n ih =>
    have h1 := hf.2.1 [] u (shf n A) (rowsOf A n ++ rowsOf B m)
    have h2 : (fun x => u * shf n A x) = (fun x => shf n R x + shf n (fun y => pm q B d y) x) := funext (fun x => by
      unfold shf
      split
      · exact hid _
      · rw [Int.mul_zero]; rfl)
    have h3 := span_op hf (r := shf n R) (q := q) (L := rowsOf A n ++ rowsOf B m) n d (fun i hi => List.mem_append.mpr (Or.inr (mem_rows.mpr ⟨n + i, by omega, rfl⟩)))
    have h4 := ih (hf.cons (shf n R)) (by omega)
    show u ^ (n + 1) * f (shf n A :: (rowsOf A n ++ rowsOf B m)) = f (shf n R :: (rowsOf R n ++ rowsOf B m))
    rw [← h4, ← h3, ← h2, Int.pow_succ, Int.mul_assoc]
    exact congrArg (fun z => u ^ n * z) h1.symm
theorem rows_mul {f : List Row → Int} (hf : Alt f) {C : Row} {s : Int} {M : List Row} (n : Nat) : f (rowsOf (fun x => s * C x) n ++ M) = s ^ n * f (rowsOf C n ++ M) := by
  induction n generalizing f with
  | zero => rw [Int.pow_zero, Int.one_mul]; rfl
  | succ n ih =>
    have h2 : shf n (fun x => s * C x) = (fun x => s * shf n C x) := funext (fun x => by
      unfold shf
      split
      · rfl
      · rw [Int.mul_zero])
    have h1 := hf.2.1 [] s (shf n C) (rowsOf (fun x => s * C x) n ++ M)
    show f (shf n (fun x => s * C x) :: (rowsOf (fun x => s * C x) n ++ M)) = s ^ (n + 1) * f (shf n C :: (rowsOf C n ++ M))
    rw [h2]
    refine h1.trans ?_
    have h4 := ih (hf.cons (shf n C))
    show s * f (shf n C :: (rowsOf (fun x => s * C x) n ++ M)) = _
    rw [h4, Int.mul_left_comm, Int.pow_succ, Int.mul_assoc]
theorem natAbs_pw (u : Int) (n : Nat) : (u ^ n).natAbs = u.natAbs ^ n := by
  induction n with
  | zero => rw [Int.pow_zero, Nat.pow_zero]; rfl
  | succ n ih => rw [Int.pow_succ, Int.natAbs_mul, ih, Nat.pow_succ]
theorem chain_step {A B C : Row} {a b c j k : Nat} {u s : Int} {q : Nat → Int} (hB : ∀ m, b < m → B m = 0) (hC : ∀ m, c < m → C m = 0) (hcb : c < b) (hba : b ≤ a) (hj : j ≤ c) (hid : ∀ m, u * A m = s * C m + pm q B (a - b + 1) m) :
    u.natAbs ^ (b - j) * (Dj a b A B j k).natAbs = s.natAbs ^ (b - j) * ((B b).natAbs ^ (a - c) * (Dj b c B C j k).natAbs) := by
  unfold Dj
  have hf := det_alt (cols j (a + b - 2 * j - 1) k)
  have h1 := rep hf (R := fun x => s * C x) (m := a - j) hid (b - j) (by omega)
  rw [rows_mul hf] at h1
  have h2 := congrArg Int.natAbs h1
  rw [Int.natAbs_mul, Int.natAbs_mul, natAbs_pw, natAbs_pw] at h2
  rw [h2]
  have h3 := elimN (b := b) (m := c - j) (j := j) (N := b + c - 2 * j - 1) (k := k) (L := rowsOf C (b - j)) hB (by omega) (a - c) (fun r hr x hx => by obtain ⟨i, hi, rfl⟩ := mem_rows.mp hr; exact shf_zero hC (by omega))
  rw [show b + c - 2 * j - 1 + (a - c) = a + b - 2 * j - 1 by omega, show c - j + (a - c) = a - j by omega] at h3
  rw [h3, swapB (det_alt _)]
theorem det1 (k : Nat) (r : Row) : det [k] [r] = r k := by
  show r k * 1 - 0 = r k
  omega
theorem top_step {A B W : Row} {a b k : Nat} {u : Int} {q : Nat → Int} (hB : ∀ m, b < m → B m = 0) (hW : ∀ m, b ≤ m → W m = 0) (hb : 1 ≤ b) (hba : b ≤ a) (hid : ∀ m, u * A m = W m + pm q B (a - b + 1) m) :
    u.natAbs * (Dj a b A B (b - 1) k).natAbs = (B b).natAbs ^ (a - b + 1) * (W k).natAbs := by
  unfold Dj
  have hf := det_alt (cols (b - 1) (a + b - 2 * (b - 1) - 1) k)
  have h1 := rep hf (R := W) (m := a - (b - 1)) hid 1 (by omega)
  have h2 := congrArg Int.natAbs h1
  rw [Int.natAbs_mul, natAbs_pw, Nat.pow_one] at h2
  rw [show b - (b - 1) = 1 by omega, h2]
  have h3 := elimN (b := b) (m := 0) (j := b - 1) (N := 0) (k := k) (L := rowsOf W 1) hB (by omega) (a - b + 1) (fun r hr x hx => by
    obtain ⟨i, hi, rfl⟩ := mem_rows.mp hr
    unfold shf
    split
    · exact hW _ (by omega)
    · rfl)
  rw [show 0 + (a - b + 1) = a + b - 2 * (b - 1) - 1 by omega] at h3
  rw [show a - (b - 1) = a + b - 2 * (b - 1) - 1 by omega, h3]
  have h4 : det (cols (b - 1) 0 k) (rowsOf W 1 ++ rowsOf B 0) = W k := by
    show det [k] [shf 0 W] = W k
    rw [det1]
    unfold shf
    rw [if_pos (Nat.zero_le _)]
    rfl
  rw [h4]
theorem low_step {A B : Row} {a b k : Nat} (hB : ∀ m, b < m → B m = 0) (hba : b < a) : (Dj a b A B b k).natAbs = (B b).natAbs ^ (a - b - 1) * (B k).natAbs := by
  unfold Dj
  have h3 := elimN (b := b) (m := 1) (j := b) (N := 0) (k := k) (L := []) hB (by omega) (a - b - 1) (fun r hr => absurd hr (List.not_mem_nil))
  rw [show 0 + (a - b - 1) = a + b - 2 * b - 1 by omega, show 1 + (a - b - 1) = a - b by omega] at h3
  rw [Nat.sub_self]
  show (det (cols b (a + b - 2 * b - 1) k) ([] ++ rowsOf B (a - b))).natAbs = _
  rw [h3]
  have h4 : det (cols b 0 k) ([] ++ rowsOf B 1) = B k := by
    show det [k] [shf 0 B] = B k
    rw [det1]
    unfold shf
    rw [if_pos (Nat.zero_le _)]
    rfl
  rw [h4]
theorem pr_app (w : Row → Nat) (L M : List Row) : pr w (L ++ M) = pr w L * pr w M := by
  induction L with
  | nil => exact (Nat.one_mul _).symm
  | cons r rs ih =>
    show w r * pr w (rs ++ M) = w r * pr w rs * pr w M
    rw [ih, Nat.mul_assoc]
theorem pr_rows {w : Row → Nat} {P : Row} {X : Nat} (h : ∀ i, w (shf i P) ≤ X) (n : Nat) : pr w (rowsOf P n) ≤ X ^ n := by
  induction n with
  | zero => exact Nat.le_refl _
  | succ n ih =>
    rw [Nat.pow_succ']
    exact Nat.mul_le_mul (h n) ih
theorem ns_mono (r : Row) {m n : Nat} (h : m ≤ n) : ns r m ≤ ns r n := by
  induction n with
  | zero => rw [Nat.le_zero.mp h]; exact Nat.le_refl _
  | succ n ih =>
    rcases Nat.eq_or_lt_of_le h with e | e
    · rw [e]; exact Nat.le_refl _
    · exact Nat.le_trans (ih (by omega)) (Nat.le_add_right _ _)
theorem ns_shf (P : Row) (i n : Nat) : ns (shf i P) n = ns P (n - i) := by
  induction n with
  | zero => rw [Nat.zero_sub]; rfl
  | succ n ih =>
    show ns (shf i P) n + (shf i P n).natAbs = _
    rw [ih]
    unfold shf
    by_cases e : i ≤ n
    · rw [if_pos e, show n + 1 - i = (n - i) + 1 by omega]
      rfl
    · rw [if_neg e, show n + 1 - i = n - i by omega]
      rfl
theorem ns_ext {P : Row} (h : ∀ m, 9 ≤ m → P m = 0) (n : Nat) : ns P n ≤ ns P 9 := by
  induction n with
  | zero => exact Nat.zero_le _
  | succ n ih =>
    rcases Nat.lt_or_ge n 9 with e | e
    · exact ns_mono P (by omega)
    · show ns P n + (P n).natAbs ≤ _
      rw [h n e]
      exact ih
theorem Dj_bd {A B : Row} {a b j k X Y : Nat} (hA9 : ∀ m, 9 ≤ m → A m = 0) (hB9 : ∀ m, 9 ≤ m → B m = 0) (hk : k ≤ j) (hX : ns A 9 ≤ X) (hY : ns B 9 ≤ Y) : (Dj a b A B j k).natAbs ≤ X ^ (b - j) * Y ^ (a - j) := by
  unfold Dj
  refine Nat.le_trans (det_bd _ _) ?_
  rw [pr_app]
  have hc : ∀ {P : Row} {Z : Nat}, (∀ m, 9 ≤ m → P m = 0) → ns P 9 ≤ Z → ∀ i, cs1 (cols j (a + b - 2 * j - 1) k) (shf i P) ≤ Z := by
    intro P Z hP hZ i
    refine Nat.le_trans (cs1_le (n := j + (a + b - 2 * j - 1) + 1) (cols_nodup hk) (fun c hc => ?_)) ?_
    · rcases List.mem_append.mp hc with h | h
      · have := mem_dsc h
        omega
      · rcases List.mem_cons.mp h with e | e
        · omega
        · exact absurd e (List.not_mem_nil)
    · rw [ns_shf]
      exact Nat.le_trans (ns_ext hP _) hZ
  exact Nat.mul_le_mul (pr_rows (hc hA9 hX) _) (pr_rows (hc hB9 hY) _)
/-! what reduce does, as an equation -/
theorem pm_pu (q : Nat → Int) (y : Row) (v : Int) (u m : Nat) : pm (pu q u v) y u m = pm q y u m := by
  have : ∀ n, n ≤ u → pm (pu q u v) y n m = pm q y n m := by
    intro n
    induction n with
    | zero => intro _; rfl
    | succ n ih =>
      intro hn
      rw [pm_s, pm_s, ih (by omega), pu_n (by omega)]
  exact this u (Nat.le_refl _)
theorem red_id (y : Row) (d u : Nat) (W : Row) : ∃ q : Nat → Int, ∀ m, ((y d).natAbs : Int) ^ u * W m = red y d u W m + pm q y u m := by
  induction u generalizing W with
  | zero => exact ⟨fun _ => 0, fun m => by rw [Int.pow_zero, Int.one_mul]; exact (Int.add_zero _).symm⟩
  | succ u ih =>
    obtain ⟨q, hq⟩ := ih (redS y d W u)
    have hs : ∃ e : Int, ∀ m, ((y d).natAbs : Int) * W m = redS y d W u m + e * shf u y m := by
      unfold redS
      by_cases hn : y d < 0
      · refine ⟨-(W (d + u)), fun m => ?_⟩
        rw [if_pos hn]
        unfold shf
        have : ((y d).natAbs : Int) = -(y d) := by omega
        rw [this]
        split <;> grind
      · refine ⟨W (d + u), fun m => ?_⟩
        rw [if_neg hn]
        unfold shf
        have : ((y d).natAbs : Int) = y d := by omega
        rw [this]
        split <;> grind
    obtain ⟨e, he⟩ := hs
    refine ⟨pu q u (((y d).natAbs : Int) ^ u * e), fun m => ?_⟩
    rw [pm_s, pm_pu, pu_e]
    show _ = red y d u (redS y d W u) m + _
    have h1 := hq m
    have h2 := he m
    have h3 : ((y d).natAbs : Int) ^ (u + 1) * W m = ((y d).natAbs : Int) ^ u * (((y d).natAbs : Int) * W m) := by rw [Int.pow_succ, Int.mul_assoc]
    rw [h3, h2, Int.mul_add, h1]
    unfold shf
    by_cases e2 : u ≤ m
    · rw [if_pos e2, if_pos e2, Int.mul_assoc, Int.add_assoc]
    · rw [if_neg e2, if_neg e2, Int.mul_zero, Int.mul_zero, Int.add_zero, Int.add_zero]
