/-! MATHEMATICS: values, roots, how long a factor is -/
theorem hs_s (W : Row) (t : Int) (k j : Nat) : hsum W t (k + 1) j = W j + t * hsum W t k (j + 1) := rfl
theorem hs_add (a b : Row) (t : Int) (k j : Nat) : hsum (fun m => a m + b m) t k j = hsum a t k j + hsum b t k j := by
  induction k generalizing j with
  | zero => rfl
  | succ k ih => rw [hs_s, hs_s, hs_s, ih, Int.mul_add]; omega
theorem hs_mul (c : Int) (a : Row) (t : Int) (k j : Nat) : hsum (fun m => c * a m) t k j = c * hsum a t k j := by
  induction k generalizing j with
  | zero => exact (Int.mul_zero c).symm
  | succ k ih => rw [hs_s, hs_s, ih, Int.mul_add, Int.mul_left_comm]
theorem hs_zero {W : Row} {t : Int} {k j : Nat} (h : ∀ i, j ≤ i → W i = 0) : hsum W t k j = 0 := by
  induction k generalizing j with
  | zero => rfl
  | succ k ih => rw [hs_s, h j (Nat.le_refl _), ih (fun i hi => h i (by omega)), Int.mul_zero]; rfl
theorem hs_ext {W : Row} {t : Int} {k k2 j : Nat} (hk : k ≤ k2) (h : ∀ i, j + k ≤ i → W i = 0) : hsum W t k2 j = hsum W t k j := by
  induction k generalizing j k2 with
  | zero => exact hs_zero (fun i hi => h i (by omega))
  | succ k ih =>
    obtain ⟨k3, rfl⟩ : ∃ k3, k2 = k3 + 1 := ⟨k2 - 1, by omega⟩
    rw [hs_s, hs_s, ih (by omega) (fun i hi => h i (by omega))]
theorem hs_snoc (W : Row) (t : Int) (k j : Nat) : hsum W t (k + 1) j = hsum W t k j + t ^ k * W (j + k) := by
  induction k generalizing j with
  | zero => rw [hs_s, Int.pow_zero, Int.one_mul]; show W j + t * 0 = 0 + W j; omega
  | succ k ih =>
    rw [hs_s, ih, hs_s, Int.mul_add, Int.pow_succ, show j + 1 + k = j + (k + 1) by omega, Int.mul_comm (t ^ k) t, Int.mul_assoc]
    omega
theorem hs_shf1 (W : Row) (t : Int) (k j : Nat) : hsum (shf 1 W) t k (j + 1) = hsum W t k j := by
  induction k generalizing j with
  | zero => rfl
  | succ k ih =>
    rw [hs_s, hs_s, ih]
    unfold shf
    rw [if_pos (by omega), Nat.add_sub_cancel]
theorem hs_shf (W : Row) (t : Int) (n k : Nat) : hsum (shf n W) t (k + n) 0 = t ^ n * hsum W t k 0 := by
  induction n with
  | zero =>
    rw [Int.pow_zero, Int.one_mul]
    have : shf 0 W = W := funext (fun m => by unfold shf; rw [if_pos (Nat.zero_le _)]; rfl)
    rw [this]
    rfl
  | succ n ih =>
    have e : shf (n + 1) W = shf 1 (shf n W) := by
      funext m
      unfold shf
      by_cases h : n + 1 ≤ m
      · rw [if_pos h, if_pos (by omega), if_pos (by omega), show m - 1 - n = m - (n + 1) by omega]
      · rw [if_neg h]
        split
        · rw [if_neg (by omega)]
        · rfl
    rw [e, show k + (n + 1) = (k + n) + 1 by omega, hs_s, hs_shf1, ih, Int.pow_succ]
    have : shf 1 (shf n W) 0 = 0 := by
      show (if 1 ≤ 0 then _ else (0 : Int)) = 0
      rw [if_neg (by omega)]
    rw [this, Int.zero_add, Int.mul_comm (t ^ n) t, Int.mul_assoc]
/-- the value -/
def val (P : Row) (t : Int) : Int := hsum P t 32 0
theorem val9 {P : Row} {t : Int} {n : Nat} (h : ∀ i, n ≤ i → P i = 0) (hn : n ≤ 32) : val P t = hsum P t n 0 := hs_ext hn (fun i hi => h i (by omega))
theorem val_pm {q G : Row} {t : Int} (hG : ∀ i, 9 ≤ i → G i = 0) (n : Nat) (hn : n ≤ 20) : val (fun m => pm q G n m) t = hsum q t n 0 * val G t := by
  induction n with
  | zero =>
    show hsum (fun _ => 0) t 32 0 = 0 * _
    rw [Int.zero_mul]
    exact hs_zero (fun _ _ => rfl)
  | succ n ih =>
    have e : (fun m => pm q G (n + 1) m) = (fun m => (fun m => pm q G n m) m + (fun m => q n * shf n G m) m) := by
      funext m
      rw [pm_s]
      dsimp only
      congr 1
      unfold shf
      split
      · rfl
      · rw [Int.mul_zero]
    have h1 : hsum (shf n G) t 32 0 = t ^ n * val G t := by
      have h2 := hs_shf G t n (32 - n)
      rw [show 32 - n + n = 32 by omega] at h2
      rw [h2]
      congr 1
      exact (hs_ext (by omega) (fun i hi => hG i (by omega))).symm
    unfold val at ih ⊢
    rw [e, hs_add, ih (by omega), hs_mul, h1, hs_snoc q t n 0, Nat.zero_add, Int.add_mul]
    unfold val
    generalize hsum G t 32 0 = v
    grind
/-- the quotient by X - t -/
def sd (F : Row) (t : Int) (n i : Nat) : Int := hsum F t (n - (i + 1)) (i + 1)
theorem sd_id {F : Row} {t : Int} {n i : Nat} (h : i < n) : hsum F t (n - i) i = F i + t * sd F t n i := by
  rw [show n - i = (n - (i + 1)) + 1 by omega, hs_s]
  rfl
theorem sd_val (F : Row) (s t : Int) (k j : Nat) : hsum F s k j = hsum F t k j + (s - t) * hsum (sd F t (j + k)) s (k - 1) j := by
  induction k generalizing j with
  | zero => show (0 : Int) = 0 + (s - t) * 0; rw [Int.mul_zero]; rfl
  | succ k ih =>
    rw [hs_s, hs_s, Nat.add_sub_cancel, ih (j + 1)]
    rcases Nat.eq_zero_or_pos k with e | e
    · subst e
      show F j + s * (0 + (s - t) * 0) = F j + t * 0 + (s - t) * 0
      simp
    · obtain ⟨k2, rfl⟩ : ∃ k2, k = k2 + 1 := ⟨k - 1, by omega⟩
      rw [Nat.add_sub_cancel, show j + (k2 + 1 + 1) = j + 1 + (k2 + 1) by omega, hs_s (sd F t _) s k2 j]
      have : sd F t (j + 1 + (k2 + 1)) j = hsum F t (k2 + 1) (j + 1) := by
        unfold sd
        rw [show j + 1 + (k2 + 1) - (j + 1) = k2 + 1 by omega]
      rw [this]
      generalize hsum F t (k2 + 1) (j + 1) = x
      generalize hsum (sd F t (j + 1 + (k2 + 1))) s k2 (j + 1) = y
      grind
def fbd : Nat → Nat → Nat → Nat
  | 0, _, L => L
  | n + 1, M, L => M + 9 * fbd n (2 * M) L
theorem fb_sum {F D : Row} {M : Nat} {t : Int} (ht : t.natAbs ≤ 8) (h0 : (F 0).natAbs ≤ M + 8 * (D 0).natAbs) (hi : ∀ i, (F (i + 1)).natAbs ≤ (D i).natAbs + 8 * (D (i + 1)).natAbs) (k : Nat) : ns F (k + 1) ≤ M + ns D k + 8 * ns D (k + 1) := by
  induction k with
  | zero =>
    show 0 + (F 0).natAbs ≤ M + 0 + 8 * (0 + (D 0).natAbs)
    omega
  | succ k ih =>
    show ns F (k + 1) + (F (k + 1)).natAbs ≤ M + (ns D k + (D k).natAbs) + 8 * (ns D (k + 1) + (D (k + 1)).natAbs)
    have := hi k
    omega
theorem abs_lin {a b t : Int} (ht : t.natAbs ≤ 8) : (a - t * b).natAbs ≤ a.natAbs + 8 * b.natAbs := by
  refine Nat.le_trans (natAbs_sub_le _ _) ?_
  rw [Int.natAbs_mul]
  exact Nat.add_le_add_left (Nat.mul_le_mul_right _ ht) _
theorem fb {n : Nat} : ∀ {F : Row} {M L : Nat} {ts : List Int}, (∀ i, n + 1 ≤ i → F i = 0) → (F n).natAbs ≤ L → ts.Nodup → (∀ t, t ∈ ts → t.natAbs ≤ 8) → n ≤ ts.length → (∀ t, t ∈ ts → (hsum F t (n + 1) 0).natAbs ≤ M) → ns F (n + 1) ≤ fbd n M L := by
  induction n with
  | zero =>
    intro F M L ts _ h1 _ _ _ _
    show 0 + (F 0).natAbs ≤ L
    omega
  | succ n ih =>
    intro F M L ts hF hL hnd h8 hlen hM
    cases ts with
    | nil => exact absurd hlen (by show ¬ n + 1 ≤ 0; omega)
    | cons t ts =>
      obtain ⟨hnd1, hnd2⟩ := List.nodup_cons.mp hnd
      have ht8 := h8 t (List.mem_cons_self ..)
      have hMt := hM t (List.mem_cons_self ..)
      have hD0 : ∀ i, n + 1 ≤ i → sd F t (n + 2) i = 0 := fun i hi => by
        unfold sd
        rw [show n + 2 - (i + 1) = 0 by omega]
        rfl
      have hDn : sd F t (n + 2) n = F (n + 1) := by
        unfold sd
        rw [show n + 2 - (n + 1) = 0 + 1 by omega, hs_s]
        show F (n + 1) + t * 0 = _
        rw [Int.mul_zero, Int.add_zero]
      have h1 := ih (F := sd F t (n + 2)) (M := 2 * M) (L := L) (ts := ts) hD0 (by rw [hDn]; exact hL) hnd2 (fun s hs => h8 s (List.mem_cons_of_mem _ hs)) (by simpa using hlen) (fun s hs => ?_)
      · have h2 := fb_sum (F := F) (D := sd F t (n + 2)) (M := M) ht8 ?_ (fun i => ?_) (n + 1)
        · have h3 : ns (sd F t (n + 2)) (n + 1 + 1) = ns (sd F t (n + 2)) (n + 1) := by
            show ns _ (n + 1) + (sd F t (n + 2) (n + 1)).natAbs = _
            rw [hD0 (n + 1) (Nat.le_refl _)]
            rfl
          show ns F (n + 1 + 1) ≤ M + 9 * fbd n (2 * M) L
          omega
        · have e := sd_id (F := F) (t := t) (n := n + 2) (i := 0) (by omega)
          rw [show F 0 = hsum F t (n + 2) 0 - t * sd F t (n + 2) 0 by rw [show n + 2 - 0 = n + 2 by omega] at e; omega]
          exact Nat.le_trans (abs_lin ht8) (Nat.add_le_add_right hMt _)
        · rcases Nat.lt_or_ge (i + 1) (n + 2) with e1 | e1
          · have e := sd_id (F := F) (t := t) (n := n + 2) (i := i + 1) e1
            have e2 : hsum F t (n + 2 - (i + 1)) (i + 1) = sd F t (n + 2) i := rfl
            rw [show F (i + 1) = sd F t (n + 2) i - t * sd F t (n + 2) (i + 1) by omega]
            exact abs_lin ht8
          · rw [hF (i + 1) (by omega)]
            exact Nat.zero_le _
      · have hst : s ≠ t := fun e => hnd1 (e ▸ hs)
        have e := sd_val F s t (n + 2) 0
        rw [Nat.zero_add, show n + 2 - 1 = n + 1 by omega] at e
        have hMs : (hsum F s (n + 2) 0).natAbs ≤ M := hM s (List.mem_cons_of_mem _ hs)
        have hMt2 : (hsum F t (n + 2) 0).natAbs ≤ M := hMt
        have e2 : ((s - t) * hsum (sd F t (n + 2)) s (n + 1) 0).natAbs ≤ 2 * M := by
          rw [show (s - t) * hsum (sd F t (n + 2)) s (n + 1) 0 = hsum F s (n + 2) 0 - hsum F t (n + 2) 0 by omega]
          have := natAbs_sub_le (hsum F s (n + 2) 0) (hsum F t (n + 2) 0)
          omega
        rw [Int.natAbs_mul] at e2
        exact Nat.le_trans (Nat.le_mul_of_pos_left _ (by omega)) e2
theorem rc {n : Nat} : ∀ {F : Row} {ts : List Int}, (∀ i, n ≤ i → F i = 0) → (∃ i, F i ≠ 0) → ts.Nodup → (∀ t, t ∈ ts → hsum F t n 0 = 0) → ts.length < n := by
  induction n with
  | zero =>
    rintro F ts hF ⟨i, hi⟩ _ _
    exact absurd (hF i (Nat.zero_le _)) hi
  | succ n ih =>
    rintro F ts hF ⟨i, hi⟩ hnd hr
    cases ts with
    | nil => exact Nat.zero_lt_succ _
    | cons t ts =>
      obtain ⟨hnd1, hnd2⟩ := List.nodup_cons.mp hnd
      have hrt := hr t (List.mem_cons_self ..)
      have h1 : ts.length < n := by
        refine ih (F := sd F t (n + 1)) (fun j hj => ?_) ?_ hnd2 (fun s hs => ?_)
        · unfold sd
          rw [show n + 1 - (j + 1) = 0 by omega]
          rfl
        · by_cases hx : ∃ i, sd F t (n + 1) i ≠ 0
          · exact hx
          · have h0 : ∀ i, sd F t (n + 1) i = 0 := fun i => Decidable.not_not.mp (fun hn => hx ⟨i, hn⟩)
            refine absurd ?_ hi
            rcases Nat.lt_or_ge i (n + 1) with e | e
            · have e2 := sd_id (F := F) (t := t) e
              rw [h0 i, Int.mul_zero, Int.add_zero] at e2
              rw [← e2]
              rcases Nat.eq_zero_or_pos i with z | z
              · subst z
                exact hrt
              · have := h0 (i - 1)
                unfold sd at this
                rw [Nat.sub_add_cancel z] at this
                exact this
            · exact hF i e
        · have hst : s ≠ t := fun e => hnd1 (e ▸ hs)
          have e := sd_val F s t (n + 1) 0
          rw [Nat.zero_add, Nat.add_sub_cancel, hr s (List.mem_cons_of_mem _ hs), hrt, Int.zero_add] at e
          rcases Int.mul_eq_zero.mp e.symm with e2 | e2
          · omega
          · exact e2
      show ts.length + 1 < n + 1
      omega
def geo : Nat → Nat
  | 0 => 0
  | n + 1 => 1 + 8 * geo n
theorem hs_bd {P : Row} {X : Nat} (h : ∀ i, (P i).natAbs ≤ X) {t : Int} (ht : t.natAbs ≤ 8) (k j : Nat) : (hsum P t k j).natAbs ≤ X * geo k := by
  induction k generalizing j with
  | zero => exact Nat.zero_le _
  | succ k ih =>
    rw [hs_s]
    refine Nat.le_trans (Int.natAbs_add_le _ _) ?_
    rw [Int.natAbs_mul]
    have h1 := h j
    have h2 : t.natAbs * (hsum P t k (j + 1)).natAbs ≤ 8 * (X * geo k) := Nat.mul_le_mul ht (ih (j + 1))
    show _ ≤ X * (1 + 8 * geo k)
    rw [Nat.mul_add, Nat.mul_one, Nat.mul_left_comm]
    omega
def pts : List Int := [-8, -7, -6, -5, -4, -3, -2, -1, 0, 1, 2, 3, 4, 5, 6, 7, 8]
theorem pts_nd : pts.Nodup := by decide
theorem pts_8 : ∀ t, t ∈ pts → t.natAbs ≤ 8 := by decide
theorem flt_len {α : Type} (p : α → Bool) (l : List α) : (l.filter p).length + (l.filter (fun x => !p x)).length = l.length := by
  induction l with
  | nil => rfl
  | cons a l ih =>
    by_cases h : p a = true
    · rw [List.filter_cons_of_pos h, List.filter_cons_of_neg (by simp [h])]
      simp only [List.length_cons]
      omega
    · rw [List.filter_cons_of_neg h, List.filter_cons_of_pos (by simp [h])]
      simp only [List.length_cons]
      omega
theorem fbd_mono (n : Nat) : ∀ {M M2 L : Nat}, M ≤ M2 → fbd n M L ≤ fbd n M2 L := by
  induction n with
  | zero => intro M M2 L _; exact Nat.le_refl _
  | succ n ih =>
    intro M M2 L h
    exact Nat.add_le_add h (Nat.mul_le_mul_left _ (ih (by omega)))
theorem fbd_succ (n : Nat) : ∀ (M L : Nat), fbd n M L ≤ fbd (n + 1) M L := by
  induction n with
  | zero => intro M L; show L ≤ M + 9 * L; omega
  | succ n ih => intro M L; exact Nat.add_le_add_left (Nat.mul_le_mul_left _ (ih _ _)) _
theorem fbd_le {m n : Nat} (h : m ≤ n) (M L : Nat) : fbd m M L ≤ fbd n M L := by
  induction n with
  | zero => rw [Nat.le_zero.mp h]; exact Nat.le_refl _
  | succ n ih =>
    rcases Nat.eq_or_lt_of_le h with e | e
    · rw [e]; exact Nat.le_refl _
    · exact Nat.le_trans (ih (by omega)) (fbd_succ n M L)
/-- how long a factor is: its values divide those of the product -/
theorem factor_bd {P F : Row} {X d n : Nat} (hP9 : ∀ i, 9 ≤ i → P i = 0) (hP0 : ∃ i, P i ≠ 0) (hX : ∀ i, (P i).natAbs ≤ X) (hF : ∀ i, d + 1 ≤ i → F i = 0) (hd : d ≤ 8) (hdn : d ≤ n) (hlc : (F d).natAbs ≤ X) (hv : ∀ t : Int, val F t ∣ val P t) : ns F 9 ≤ fbd n (X * 19173961) X := by
  have hbad := rc (n := 9) (F := P) (ts := pts.filter (fun t => !decide (hsum P t 9 0 ≠ 0))) hP9 hP0 (pts_nd.filter _) (fun t ht => by
    have := (List.mem_filter.mp ht).2
    simpa using this)
  have hlen := flt_len (fun t => decide (hsum P t 9 0 ≠ 0)) pts
  have hl17 : pts.length = 17 := rfl
  have hb := fb (n := d) (F := F) (M := X * 19173961) (L := X) (ts := pts.filter (fun t => decide (hsum P t 9 0 ≠ 0))) hF hlc (pts_nd.filter _) (fun t ht => pts_8 t (List.mem_filter.mp ht).1) (by omega) (fun t ht => by
    obtain ⟨h1, h2⟩ := List.mem_filter.mp ht
    have h3 : hsum P t 9 0 ≠ 0 := by simpa using h2
    have h4 := hv t
    rw [val9 hF (by omega), val9 hP9 (by omega)] at h4
    have h5 := Nat.le_of_dvd (by omega) (Int.natAbs_dvd_natAbs.mpr h4)
    exact Nat.le_trans h5 (hs_bd hX (pts_8 t h1) 9 0))
  have h9 : ns F 9 ≤ ns F (d + 1) := by
    have : ∀ k, ns F (d + 1 + k) = ns F (d + 1) := by
      intro k
      induction k with
      | zero => rfl
      | succ k ih =>
        show ns F (d + 1 + k) + (F (d + 1 + k)).natAbs = _
        rw [ih, hF _ (by omega)]
        rfl
    have h2 := this (8 - d)
    rw [show d + 1 + (8 - d) = 9 by omega] at h2
    omega
  exact Nat.le_trans h9 (Nat.le_trans hb (fbd_le hdn _ _))
