/-! MATHEMATICS: determinants of lists of rows, by the first column; row operations; a bound -/
abbrev Row : Type := Nat → Int
def Lp (c : Nat) : (List Row → Int) → List Row → Int
  | _, [] => 0
  | f, r :: rs => r c * f rs - Lp c (fun l => f (r :: l)) rs
def det : List Nat → List Row → Int
  | [], [] => 1
  | [], _ :: _ => 0
  | c :: cs, l => Lp c (det cs) l
def Alt (f : List Row → Int) : Prop := (∀ (A : List Row) (r s : Row) (B : List Row), f (A ++ (fun m => r m + s m) :: B) = f (A ++ r :: B) + f (A ++ s :: B)) ∧ (∀ (A : List Row) (t : Int) (r : Row) (B : List Row), f (A ++ (fun m => t * r m) :: B) = t * f (A ++ r :: B)) ∧ (∀ (A : List Row) (r s : Row) (B : List Row), f (A ++ r :: s :: B) = -(f (A ++ s :: r :: B)))
theorem Alt.cons {f : List Row → Int} (h : Alt f) (r : Row) : Alt (fun l => f (r :: l)) := ⟨fun A => h.1 (r :: A), fun A => h.2.1 (r :: A), fun A => h.2.2 (r :: A)⟩
theorem Lp_add (c : Nat) (f g : List Row → Int) (L : List Row) : Lp c (fun l => f l + g l) L = Lp c f L + Lp c g L := by
  induction L generalizing f g with
  | nil => rfl
  | cons r rs ih =>
    show r c * (f rs + g rs) - Lp c (fun l => f (r :: l) + g (r :: l)) rs = (r c * f rs - Lp c (fun l => f (r :: l)) rs) + (r c * g rs - Lp c (fun l => g (r :: l)) rs)
    rw [ih (fun l => f (r :: l)) (fun l => g (r :: l)), Int.mul_add]
    omega
theorem Lp_mul (c : Nat) (t : Int) (f : List Row → Int) (L : List Row) : Lp c (fun l => t * f l) L = t * Lp c f L := by
  induction L generalizing f with
  | nil => exact (Int.mul_zero t).symm
  | cons r rs ih =>
    show r c * (t * f rs) - Lp c (fun l => t * f (r :: l)) rs = t * (r c * f rs - Lp c (fun l => f (r :: l)) rs)
    rw [ih (fun l => f (r :: l)), Int.mul_sub, Int.mul_left_comm]
theorem Lp_neg (c : Nat) (f : List Row → Int) (L : List Row) : Lp c (fun l => -(f l)) L = -(Lp c f L) := by
  have := Lp_mul c (-1) f L
  rw [show (fun l => -(f l)) = (fun l => (-1) * f l) from funext (fun l => (Int.neg_one_mul (f l)).symm), this, Int.neg_one_mul]
theorem Lp_alt {f : List Row → Int} (c : Nat) (h : Alt f) : Alt (Lp c f) := by
  refine ⟨fun A => ?_, fun A => ?_, fun A => ?_⟩
  · induction A generalizing f with
    | nil =>
      intro r s B
      show (r c + s c) * f B - Lp c (fun l => f ((fun m => r m + s m) :: l)) B = (r c * f B - Lp c (fun l => f (r :: l)) B) + (s c * f B - Lp c (fun l => f (s :: l)) B)
      rw [show (fun l => f ((fun m => r m + s m) :: l)) = (fun l => f (r :: l) + f (s :: l)) from funext (fun l => h.1 [] r s l), Lp_add, Int.add_mul]
      omega
    | cons x A ih =>
      intro r s B
      show x c * f (A ++ (fun m => r m + s m) :: B) - Lp c (fun l => f (x :: l)) (A ++ (fun m => r m + s m) :: B) = (x c * f (A ++ r :: B) - Lp c (fun l => f (x :: l)) (A ++ r :: B)) + (x c * f (A ++ s :: B) - Lp c (fun l => f (x :: l)) (A ++ s :: B))
      rw [ih (h.cons x) r s B, h.1, Int.mul_add]
      omega
  · induction A generalizing f with
    | nil =>
      intro t r B
      show (t * r c) * f B - Lp c (fun l => f ((fun m => t * r m) :: l)) B = t * (r c * f B - Lp c (fun l => f (r :: l)) B)
      rw [show (fun l => f ((fun m => t * r m) :: l)) = (fun l => t * f (r :: l)) from funext (fun l => h.2.1 [] t r l), Lp_mul, Int.mul_sub, Int.mul_assoc]
    | cons x A ih =>
      intro t r B
      show x c * f (A ++ (fun m => t * r m) :: B) - Lp c (fun l => f (x :: l)) (A ++ (fun m => t * r m) :: B) = t * (x c * f (A ++ r :: B) - Lp c (fun l => f (x :: l)) (A ++ r :: B))
      rw [ih (h.cons x) t r B, h.2.1, Int.mul_sub, Int.mul_left_comm]
  · induction A generalizing f with
    | nil =>
      intro r s B
      show r c * f (s :: B) - (s c * f (r :: B) - Lp c (fun l => f (r :: s :: l)) B) = -(s c * f (r :: B) - (r c * f (s :: B) - Lp c (fun l => f (s :: r :: l)) B))
      rw [show (fun l => f (r :: s :: l)) = (fun l => -(f (s :: r :: l))) from funext (fun l => h.2.2 [] r s l), Lp_neg]
      omega
    | cons x A ih =>
      intro r s B
      show x c * f (A ++ r :: s :: B) - Lp c (fun l => f (x :: l)) (A ++ r :: s :: B) = -(x c * f (A ++ s :: r :: B) - Lp c (fun l => f (x :: l)) (A ++ s :: r :: B))
      rw [ih (h.cons x) r s B, h.2.2, Int.mul_neg]
      omega
theorem det_alt (cs : List Nat) : Alt (det cs) := by
  induction cs with
  | nil =>
    refine ⟨fun A r s B => ?_, fun A t r B => ?_, fun A r s B => ?_⟩ <;> cases A
    · rfl
    · rfl
    · exact (Int.mul_zero t).symm
    · exact (Int.mul_zero t).symm
    · rfl
    · rfl
  | cons c cs ih => exact Lp_alt c ih
theorem bubble {f : List Row → Int} (h : Alt f) (s : Row) (R B : List Row) : (f (s :: (R ++ B))).natAbs = (f (R ++ s :: B)).natAbs := by
  induction R generalizing f with
  | nil => rfl
  | cons x R ih =>
    have h1 := h.2.2 [] s x (R ++ B)
    have h2 := ih (h.cons x)
    rw [show (f (s :: (x :: R ++ B))) = -(f (x :: s :: (R ++ B))) from h1, Int.natAbs_neg]
    exact h2
theorem dup0 {f : List Row → Int} (h : Alt f) (s : Row) (R B : List Row) : f (s :: (R ++ s :: B)) = 0 := by
  have h1 := bubble h s R (s :: B)
  have h2 := h.2.2 R s s B
  omega
theorem dup {f : List Row → Int} (h : Alt f) {s : Row} {L : List Row} (hs : s ∈ L) : f (s :: L) = 0 := by
  obtain ⟨R, B, rfl⟩ := List.append_of_mem hs
  exact dup0 h s R B
theorem row_op {f : List Row → Int} (h : Alt f) {s r : Row} {L : List Row} (t : Int) (hs : s ∈ L) : f ((fun m => r m + t * s m) :: L) = f (r :: L) := by
  have h1 := h.1 [] r (fun m => t * s m) L
  have h2 := h.2.1 [] t s L
  have h3 := dup h hs
  show f ([] ++ (fun m => r m + t * s m) :: L) = _
  rw [h1, h2]
  show f (r :: L) + t * f (s :: L) = _
  rw [h3, Int.mul_zero, Int.add_zero]
/-- the first block goes behind the second -/
theorem swapB {f : List Row → Int} (h : Alt f) (L M : List Row) : (f (L ++ M)).natAbs = (f (M ++ L)).natAbs := by
  induction L generalizing f M with
  | nil => rw [List.append_nil]; rfl
  | cons x L ih =>
    have h1 : (f (x :: L ++ M)).natAbs = (f (x :: (M ++ L))).natAbs := ih (h.cons x) M
    rw [h1]
    exact bubble h x M L
/-- only one row has something in the column -/
theorem Lp_zero {c : Nat} {f : List Row → Int} {L : List Row} (h : ∀ r, r ∈ L → r c = 0) : Lp c f L = 0 := by
  induction L generalizing f with
  | nil => rfl
  | cons r rs ih =>
    show r c * f rs - Lp c (fun l => f (r :: l)) rs = 0
    rw [h r (List.mem_cons_self ..), ih (fun s hs => h s (List.mem_cons_of_mem _ hs)), Int.zero_mul]
    rfl
theorem Lp_one {c : Nat} {f : List Row → Int} (hf : Alt f) {L M : List Row} {r : Row} (h1 : ∀ s, s ∈ L → s c = 0) (h2 : ∀ s, s ∈ M → s c = 0) : (Lp c f (L ++ r :: M)).natAbs = (r c).natAbs * (f (L ++ M)).natAbs := by
  rw [← bubble (Lp_alt c hf) r L M]
  show (r c * f (L ++ M) - Lp c (fun l => f (r :: l)) (L ++ M)).natAbs = _
  rw [Lp_zero (fun s hs => by rcases List.mem_append.mp hs with h | h; exact h1 s h; exact h2 s h), Int.sub_zero, Int.natAbs_mul]
/-! the bound -/
def pr (w : Row → Nat) : List Row → Nat
  | [] => 1
  | r :: rs => w r * pr w rs
theorem pr_mono {w v : Row → Nat} (h : ∀ r, w r ≤ v r) (L : List Row) : pr w L ≤ pr v L := by
  induction L with
  | nil => exact Nat.le_refl _
  | cons r rs ih => exact Nat.mul_le_mul (h r) ih
theorem Lp_bd {c : Nat} {w : Row → Nat} {f : List Row → Int} {K : Nat} (h : ∀ l, (f l).natAbs ≤ K * pr w l) (L : List Row) : (Lp c f L).natAbs + K * pr w L ≤ K * pr (fun r => (r c).natAbs + w r) L := by
  induction L generalizing f K with
  | nil =>
    show (0 : Int).natAbs + K * 1 ≤ K * 1
    simp
  | cons r rs ih =>
    have h1 := ih (f := fun l => f (r :: l)) (K := K * w r) (fun l => by rw [Nat.mul_assoc]; exact h (r :: l))
    have h2 : (r c * f rs).natAbs ≤ (r c).natAbs * (K * pr w rs) := by
      rw [Int.natAbs_mul]
      exact Nat.mul_le_mul_left _ (h rs)
    have h3 : (Lp c f (r :: rs)).natAbs ≤ (r c * f rs).natAbs + (Lp c (fun l => f (r :: l)) rs).natAbs := natAbs_sub_le _ _
    have h4 : pr w rs ≤ pr (fun r => (r c).natAbs + w r) rs := pr_mono (fun r => Nat.le_add_left _ _) rs
    have h5 : (r c).natAbs * (K * pr w rs) ≤ (r c).natAbs * (K * pr (fun r => (r c).natAbs + w r) rs) := Nat.mul_le_mul_left _ (Nat.mul_le_mul_left _ h4)
    show _ + K * (w r * pr w rs) ≤ K * (((r c).natAbs + w r) * pr (fun r => (r c).natAbs + w r) rs)
    generalize pr (fun r => (r c).natAbs + w r) rs = P at *
    have e1 : K * (((r c).natAbs + w r) * P) = (r c).natAbs * (K * P) + K * w r * P := by grind
    have e2 : K * (w r * pr w rs) = K * w r * pr w rs := by grind
    omega
def cs1 : List Nat → Row → Nat
  | [], _ => 0
  | c :: cs, r => (r c).natAbs + cs1 cs r
theorem det_bd (cols : List Nat) (L : List Row) : (det cols L).natAbs ≤ pr (cs1 cols) L := by
  induction cols generalizing L with
  | nil =>
    cases L with
    | nil => exact Nat.le_refl _
    | cons r rs => exact Nat.zero_le _
  | cons c cs ih =>
    have := Lp_bd (c := c) (K := 1) (w := cs1 cs) (f := det cs) (fun l => by rw [Nat.one_mul]; exact ih l) L
    rw [Nat.one_mul, Nat.one_mul] at this
    exact Nat.le_trans (Nat.le_add_right _ _) this
/-- the sum of the sizes of n terms -/
def ns (r : Row) : Nat → Nat
  | 0 => 0
  | n + 1 => ns r n + (r n).natAbs
theorem ns_pu (r : Row) (c n : Nat) : ns (pu r c 0) n + (if c < n then (r c).natAbs else 0) = ns r n := by
  induction n with
  | zero => rfl
  | succ n ih =>
    show ns (pu r c 0) n + (pu r c 0 n).natAbs + _ = ns r n + (r n).natAbs
    by_cases e : n = c
    · subst e
      rw [if_neg (by omega)] at ih
      rw [pu_e, if_pos (by omega)]
      show _ + 0 + _ = _
      omega
    · rw [pu_n e]
      by_cases e2 : c < n
      · rw [if_pos e2] at ih
        rw [if_pos (by omega)]
        omega
      · rw [if_neg e2] at ih
        rw [if_neg (by omega)]
        omega
theorem cs1_congr {cols : List Nat} {r s : Row} (h : ∀ c, c ∈ cols → r c = s c) : cs1 cols r = cs1 cols s := by
  induction cols with
  | nil => rfl
  | cons c cs ih =>
    show (r c).natAbs + _ = (s c).natAbs + _
    rw [h c (List.mem_cons_self ..), ih (fun d hd => h d (List.mem_cons_of_mem _ hd))]
theorem cs1_le {cols : List Nat} (hn : cols.Nodup) {r : Row} {n : Nat} (h : ∀ c, c ∈ cols → c < n) : cs1 cols r ≤ ns r n := by
  induction cols generalizing r with
  | nil => exact Nat.zero_le _
  | cons c cs ih =>
    obtain ⟨h1, h2⟩ := List.nodup_cons.mp hn
    have h3 := ih h2 (r := pu r c 0) (fun d hd => h d (List.mem_cons_of_mem _ hd))
    have h4 := ns_pu r c n
    rw [if_pos (h c (List.mem_cons_self ..))] at h4
    have h5 : cs1 cs (pu r c 0) = cs1 cs r := cs1_congr (fun d hd => pu_n (fun e => h1 (by rw [← e]; exact hd)))
    rw [h5] at h3
    show (r c).natAbs + _ ≤ _
    omega
