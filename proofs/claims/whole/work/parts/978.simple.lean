/-! MATHEMATICS: the simple part has no double root -/
theorem val_pm2 {q G : Row} {t : Int} {g : Nat} (hG : ∀ i, g ≤ i → G i = 0) : ∀ n, n + g ≤ 32 → val (fun m => pm q G n m) t = hsum q t n 0 * val G t := by
  intro n
  induction n with
  | zero =>
    intro _
    rw [show hsum q t 0 0 = 0 from rfl, Int.zero_mul]
    exact hs_zero (fun _ _ => rfl)
  | succ n ih =>
    intro hn
    have e1 : (fun m => pm q G (n + 1) m) = fun m => pm q G n m + q n * shf n G m := by
      funext m
      rw [pm_s]
      unfold shf
      split
      · rfl
      · rw [Int.mul_zero]
    have e2 : val (shf n G) t = t ^ n * val G t := by
      unfold val
      have h1 := hs_shf G t n (32 - n)
      rw [show 32 - n + n = 32 by omega] at h1
      rw [h1, hs_ext (k := 32 - n) (k2 := 32) (by omega) (fun i hi => hG i (by omega))]
    rw [e1]
    unfold val at *
    rw [hs_add, hs_mul, ih (by omega), e2, hs_snoc q t n 0, Nat.zero_add]
    generalize t ^ n = P
    generalize hsum G t 32 0 = V
    generalize hsum q t n 0 = U
    clear ih e1 e2 hG
    grind
theorem v_add (A B : Row) (t : Int) : val (fun m => A m + B m) t = val A t + val B t := hs_add A B t 32 0
theorem v_mul (c : Int) (A : Row) (t : Int) : val (fun m => c * A m) t = c * val A t := hs_mul c A t 32 0
theorem v_shf1 {P : Row} (h : ∀ i, 31 ≤ i → P i = 0) (t : Int) : val (shf 1 P) t = t * val P t := by
  unfold val
  rw [hs_s, hs_shf1, show shf 1 P 0 = 0 from rfl, Int.zero_add, hs_ext (k := 31) (k2 := 32) (by omega) (fun i hi => h i (by omega))]
theorem dv_shf1 (P : Row) : dv (shf 1 P) = fun j => P j + shf 1 (dv P) j := by
  funext j
  unfold dv shf
  rw [if_pos (by omega), Nat.add_sub_cancel]
  by_cases e : 1 ≤ j
  · rw [if_pos e]
    dsimp only
    rw [show j - 1 + 1 = j by omega, show (((j - 1 : Nat) : Int) + 1) = j by omega]
    grind
  · rw [if_neg e, show j = 0 by omega]
    grind
theorem pm_low (a b : Row) : ∀ n m, pm a b (n + 1) m = a 0 * b m + shf 1 (fun m => pm (fun j => a (j + 1)) b n m) m := by
  intro n
  induction n with
  | zero =>
    intro m
    rw [pm_s]
    show 0 + (if 0 ≤ m then a 0 * b (m - 0) else 0) = _
    rw [if_pos (Nat.zero_le _), Nat.sub_zero]
    have : shf 1 (fun m => pm (fun j => a (j + 1)) b 0 m) m = 0 := by
      unfold shf
      split <;> rfl
    rw [this]
    omega
  | succ n ih =>
    intro m
    rw [pm_s, ih]
    unfold shf
    by_cases e : 1 ≤ m
    · rw [if_pos e, if_pos e]
      dsimp only
      rw [pm_s]
      by_cases e2 : n + 1 ≤ m
      · rw [if_pos e2, if_pos (by omega), show m - 1 - n = m - (n + 1) by omega]
        omega
      · rw [if_neg e2, if_neg (by omega)]
        omega
    · rw [if_neg e, if_neg e, if_neg (by omega)]
      omega
theorem leib {b : Row} {t : Int} (hb : ∀ i, 9 ≤ i → b i = 0) : ∀ (n : Nat) (a : Row), n ≤ 20 → (∀ i, n ≤ i → a i = 0) → val (dv (fun m => pm a b n m)) t = val (dv a) t * val b t + val a t * val (dv b) t := by
  intro n
  induction n with
  | zero =>
    intro a _ ha
    have e1 : dv (fun m => pm a b 0 m) = fun _ => 0 := by
      funext j
      show (0 : Int) * _ = 0
      rw [Int.zero_mul]
    have e2 : dv a = fun _ => 0 := by
      funext j
      unfold dv
      rw [ha _ (Nat.zero_le _), Int.zero_mul]
    have e3 : a = fun _ => 0 := funext (fun j => ha j (Nat.zero_le _))
    have e4 : val (fun _ => (0 : Int)) t = 0 := hs_zero (fun _ _ => rfl)
    rw [e1, e2, e3, e4, Int.zero_mul, Int.zero_mul]
    rfl
  | succ n ih =>
    intro a hn ha
    have ha' : ∀ i, n ≤ i → (fun j => a (j + 1)) i = 0 := fun i hi => ha (i + 1) (by omega)
    have i1 := ih (fun j => a (j + 1)) (by omega) ha'
    have hz : ∀ i, n + 9 ≤ i → pm (fun j => a (j + 1)) b n i = 0 := by
      intro i hi
      have : ∀ k, k ≤ n → pm (fun j => a (j + 1)) b k i = 0 := by
        intro k
        induction k with
        | zero => intro _; rfl
        | succ k ih2 =>
          intro hk
          rw [pm_s, ih2 (by omega), hb (i - k) (by omega), Int.mul_zero, ite_self]
          rfl
      exact this n (Nat.le_refl _)
    have e1 : (fun m => pm a b (n + 1) m) = fun m => a 0 * b m + shf 1 (fun m => pm (fun j => a (j + 1)) b n m) m := funext (pm_low a b n)
    have e2 : dv (fun m => pm a b (n + 1) m) = fun j => a 0 * dv b j + (pm (fun j => a (j + 1)) b n j + shf 1 (dv (fun m => pm (fun j => a (j + 1)) b n m)) j) := by
      rw [e1]
      funext j
      have h1 := congrFun (dv_shf1 (fun m => pm (fun j => a (j + 1)) b n m)) j
      rw [← h1]
      unfold dv
      dsimp only
      grind
    have e3 : a = fun j => a 0 * one1 j + shf 1 (fun j => a (j + 1)) j := by
      funext j
      unfold shf one1
      by_cases e : j = 0
      · rw [e, if_pos rfl, if_neg (by omega)]
        omega
      · rw [if_neg e, if_pos (by omega)]
        dsimp only
        rw [show j - 1 + 1 = j by omega]
        omega
    have e4 : dv a = fun j => a (j + 1) + shf 1 (dv (fun j => a (j + 1))) j := by
      funext j
      unfold dv shf
      by_cases e : 1 ≤ j
      · rw [if_pos e]
        dsimp only
        rw [show j - 1 + 1 = j by omega, show (((j - 1 : Nat) : Int) + 1) = j by omega]
        grind
      · rw [if_neg e, show j = 0 by omega]
        grind
    have v1 : val a t = a 0 + t * val (fun j => a (j + 1)) t := by
      have h1 : val a t = val (fun j => a 0 * one1 j + shf 1 (fun j => a (j + 1)) j) t := by rw [← e3]
      have h2 : val one1 t = 1 := by
        unfold val
        rw [hs_ext (k := 1) (k2 := 32) (by omega) (fun i hi => show one1 i = 0 from if_neg (by omega)), hs_s]
        show (1 : Int) + t * 0 = 1
        omega
      rw [h1, v_add (fun j => a 0 * one1 j), v_mul, v_shf1 (fun i hi => ha' i (by omega)), h2, Int.mul_one]
    have v2 : val (dv a) t = val (fun j => a (j + 1)) t + t * val (dv (fun j => a (j + 1))) t := by
      rw [e4, v_add (fun j => a (j + 1)), v_shf1 (fun i hi => by unfold dv; dsimp only; rw [ha _ (by omega), Int.zero_mul])]
    have v3 : val (fun m => pm (fun j => a (j + 1)) b n m) t = val (fun j => a (j + 1)) t * val b t := by
      rw [val_pm2 hb n (by omega), val9 (n := n) ha' (by omega)]
    rw [e2, v_add (fun j => a 0 * dv b j), v_mul, v_add (fun j => pm (fun j => a (j + 1)) b n j), v_shf1 (fun i hi => by unfold dv; dsimp only; rw [hz _ (by omega), Int.zero_mul]), i1, v1, v2, v3]
    generalize val (fun j => a (j + 1)) t = A
    generalize val (dv (fun j => a (j + 1))) t = A'
    generalize val b t = B
    generalize val (dv b) t = B'
    grind
/-- points enough -/
def pts2 : List Int := (List.range 64).map (fun (i : Nat) => (i : Int))
theorem pts2_nd : pts2.Nodup := by decide +kernel
theorem cancel {K F : Row} {n : Nat} (hK : ∀ i, 9 ≤ i → K i = 0) (hK0 : dl K ≠ 0) (hn : n ≤ 32) (hF : ∀ i, n ≤ i → F i = 0) (h : ∀ t, val K t * val F t = 0) : ∀ i, F i = 0 := by
  intro i
  by_cases e : F i = 0
  · exact e
  · exfalso
    have h1 := flt_len (fun t => decide (hsum K t 9 0 = 0)) pts2
    have h2 := rc (n := 9) (F := K) (ts := pts2.filter (fun t => decide (hsum K t 9 0 = 0))) hK ⟨dl K - 1, ln_top hK0⟩ (pts2_nd.filter _) (fun t ht => of_decide_eq_true (List.mem_filter.mp ht).2)
    have h3 := rc (n := n) (F := F) (ts := pts2.filter (fun t => !decide (hsum K t 9 0 = 0))) hF ⟨i, e⟩ (pts2_nd.filter _) (fun t ht => by
      have h4 := (List.mem_filter.mp ht).2
      have h5 : ¬ hsum K t 9 0 = 0 := fun z => by rw [decide_eq_true z] at h4; exact absurd h4 (by decide)
      have h6 := h t
      rw [val9 hK (by omega), val9 hF hn] at h6
      exact (Int.mul_eq_zero.mp h6).resolve_left h5)
    have h4 : pts2.length = 64 := by decide +kernel
    omega
