/-! MATHEMATICS: the simple part and its slope have no factor in common -/
theorem pmz {q G : Row} {g : Nat} (hG : ∀ i, g ≤ i → G i = 0) : ∀ n m, n + g ≤ m → pm q G n m = 0 := by
  intro n
  induction n with
  | zero => intro m _; rfl
  | succ n ih =>
    intro m hm
    rw [pm_s, ih m (by omega), hG (m - n) (by omega), Int.mul_zero, ite_self]
    rfl
theorem vp {a b P : Row} (ha : ∀ i, 9 ≤ i → a i = 0) (hb : ∀ i, 9 ≤ i → b i = 0) (h : ∀ m, P m = pm a b 9 m) (t : Int) : val P t = val a t * val b t := by
  rw [show P = fun m => pm a b 9 m from funext h, val_pm2 hb 9 (by omega), val9 ha (by omega)]
theorem lb {a b P : Row} (ha : ∀ i, 9 ≤ i → a i = 0) (hb : ∀ i, 9 ≤ i → b i = 0) (h : ∀ m, P m = pm a b 9 m) (t : Int) : val (dv P) t = val (dv a) t * val b t + val a t * val (dv b) t := by
  rw [show P = fun m => pm a b 9 m from funext h]
  exact leib hb 9 a (by omega) ha
theorem dl_pm {a b P : Row} (ha : ∀ i, 9 ≤ i → a i = 0) (hb : ∀ i, 9 ≤ i → b i = 0) (hP : ∀ i, 9 ≤ i → P i = 0) (ha0 : dl a ≠ 0) (hb0 : dl b ≠ 0) (h : ∀ m, P m = pm a b 9 m) : dl P + 1 = dl a + dl b := by
  have h1 : pm a b 9 ((dl a - 1) + (dl b - 1)) = a (dl a - 1) * b (dl b - 1) := pm_lead (by have := dl_le a; omega) (fun i x _ => dl_zero ha (by omega)) (fun i hi => dl_zero hb (by omega))
  have h2 : P ((dl a - 1) + (dl b - 1)) ≠ 0 := by
    rw [h, h1]
    exact Int.mul_ne_zero (ln_top ha0) (ln_top hb0)
  have h3 : (dl a - 1) + (dl b - 1) < 9 := by
    rcases Nat.lt_or_ge ((dl a - 1) + (dl b - 1)) 9 with e | e
    · exact e
    · exact absurd (hP _ e) h2
  have h4 : dl P = dl a + dl b - 1 := by
    refine dl_uniq (by omega) (fun i hi => ?_) (fun _ => ?_)
    · rw [h]
      exact pm_top (d := dl a - 1) (e := dl b - 1) (fun j x _ => dl_zero ha (by omega)) (fun j x => dl_zero hb (by omega)) (by omega)
    · rw [show dl a + dl b - 1 - 1 = (dl a - 1) + (dl b - 1) by omega]
      exact h2
  omega
theorem pm_one (G : Row) (m : Nat) : pm one1 G 9 m = G m := by
  have : ∀ n, pm one1 G (n + 1) m = G m := by
    intro n
    induction n with
    | zero =>
      rw [pm_s]
      show 0 + (if 0 ≤ m then 1 * G (m - 0) else 0) = G m
      rw [if_pos (Nat.zero_le _), Nat.sub_zero]
      omega
    | succ n ih =>
      rw [pm_s, ih, show one1 (n + 1) = 0 from if_neg (by omega), Int.zero_mul, ite_self]
      omega
  exact this 8
theorem pm_oneR {H : Row} (hH : ∀ i, 9 ≤ i → H i = 0) (m : Nat) : pm H one1 9 m = H m := by
  rw [pm_const (B := one1) (fun j hj => if_neg (by omega))]
  by_cases e : m < 9
  · rw [if_pos e, show one1 0 = 1 from rfl, Int.mul_one]
  · rw [if_neg e, hH m (by omega)]
/-- what divides H q and H r divides H -/
theorem cop {L : Nat → Row} {l : Nat} {D H q0 q1 : Row} (hl : 1 ≤ l) (hS : SCp L l) (hE : SCe L l) (hD : cnt D = 1) (hH : ∀ i, 9 ≤ i → H i = 0) (h09 : ∀ i, 9 ≤ i → q0 i = 0) (h19 : ∀ i, 9 ≤ i → q1 i = 0) (h0 : ∀ m, L 0 m = pm q0 (ppos (L l)) 9 m) (h1 : ∀ m, L 1 m = pm q1 (ppos (L l)) 9 m) (z0 : Dv D (fun m => pm H q0 9 m)) (z1 : Dv D (fun m => pm H q1 9 m)) : Dv D H := by
  have hl9 := (hS.1 l (Nat.le_refl _)).2
  have hl0 := (hS.1 l (Nat.le_refl _)).1
  have hG9 : ∀ i, 9 ≤ i → ppos (L l) i = 0 := fun i hi => pp9 hl9 hi
  have hG0 : dl (ppos (L l)) ≠ 0 := by rw [dl_pp hl9 hl0]; exact hl0
  have hPr := prim_of hD
  have key : ∀ j, j + 1 ≤ l → (∃ a, (∀ i, 9 ≤ i → a i = 0) ∧ (∀ m, L j m = pm a (ppos (L l)) 9 m) ∧ Dv D (fun m => pm H a 9 m)) ∧ (∃ a, (∀ i, 9 ≤ i → a i = 0) ∧ (∀ m, L (j + 1) m = pm a (ppos (L l)) 9 m) ∧ Dv D (fun m => pm H a 9 m)) := by
    intro j
    induction j with
    | zero => intro _; exact ⟨⟨q0, h09, h0, z0⟩, ⟨q1, h19, h1, z1⟩⟩
    | succ j ih =>
      intro hj
      obtain ⟨⟨a, a9, aL, aD⟩, ⟨b, b9, bL, bD⟩⟩ := ih (by omega)
      refine ⟨⟨b, b9, bL, bD⟩, ?_⟩
      obtain ⟨C, u, s, q, hu, hs, _, _, hr⟩ := rl_ex hS (i := j + 1) (by omega) (by omega)
      rw [Nat.add_sub_cancel] at hr
      have hn9 := (hS.1 (j + 2) (by omega)).2
      obtain ⟨c, c9, cL, _, _, _⟩ := dv_top hG9 hn9 hG0 (hS.1 (j + 2) (by omega)).1 (chain_dvd hl hS hE (j + 2) (by omega))
      refine ⟨c, c9, cL, ?_⟩
      have hz := cancel (K := ppos (L l)) (F := fun m => s * pm H c 9 m + (u * pm H a 9 m + -1 * pm q (fun m => pm H b 9 m) 9 m)) (n := 27) hG9 hG0 (by omega) (fun i hi => by
        show s * pm H c 9 i + (u * pm H a 9 i + -1 * pm q (fun m => pm H b 9 m) 9 i) = 0
        rw [pmz c9 9 i (by omega), pmz a9 9 i (by omega), pmz (g := 18) (fun k hk => pmz b9 9 k (by omega)) 9 i (by omega)]
        omega) (fun t => by
        rw [v_add (fun m => s * pm H c 9 m), v_add (fun m => u * pm H a 9 m), v_mul, v_mul, v_mul, val_pm2 (q := q) (g := 18) (fun k hk => pmz b9 9 k (by omega)) 9 (by omega), vp hH c9 (fun _ => rfl), vp hH a9 (fun _ => rfl), vp hH b9 (fun _ => rfl)]
        have e1 := vp a9 hG9 aL t
        have e2 := vp b9 hG9 bL t
        have e3 := vp c9 hG9 cL t
        have e4 : u * val (L j) t + s * val (L (j + 2)) t = hsum q t 9 0 * val (L (j + 1)) t := by
          rw [← v_mul, ← v_mul, ← v_add, ← val_pm2 (hS.1 (j + 1) (by omega)).2 9 (by omega)]
          congr 1
          funext m
          exact hr m
        rw [e1, e2, e3] at e4
        generalize val (ppos (L l)) t = G at *
        generalize val H t = Hv at *
        generalize val a t = A at *
        generalize val b t = B at *
        generalize val c t = Cv at *
        generalize hsum q t 9 0 = Qv at *
        have e5 : G * (s * (Hv * Cv) + (u * (Hv * A) + -1 * (Qv * (Hv * B)))) = Hv * (u * (A * G) + s * (Cv * G) - Qv * (B * G)) := by grind
        rw [e5, e4, Int.sub_self, Int.mul_zero])
      refine gauss hPr (t := s) (by omega) ?_
      have h3 := (dv_pm q 9 bD).add (aD.mul (-u))
      refine (funext (fun m => ?_) : (fun m => s * pm H c 9 m) = _) ▸ h3
      have h4 := hz m
      have h5 : s * pm H c 9 m + (u * pm H a 9 m + -1 * pm q (fun m => pm H b 9 m) 9 m) = 0 := h4
      rw [Int.neg_mul]
      omega
  obtain ⟨_, c, c9, cL, cD⟩ := key (l - 1) (by omega)
  rw [show l - 1 + 1 = l by omega] at cL
  have hk := kap_ne hl0
  have hc : c = fun i => kap (L l) * one1 i := by
    refine pm_cancel c9 (fun i hi => by show kap (L l) * one1 i = 0; rw [one9 i hi, Int.mul_zero]) hG9 hG0 (fun m => ?_)
    rw [← cL m, pm_mul, pm_one]
    exact kap_pp hl9 m
  refine gauss hPr (t := kap (L l)) hk ?_
  have hrow : (fun m => pm H c 9 m) = fun m => kap (L l) * H m := by
    funext m
    rw [hc, pm_mulR, pm_oneR hH]
  rw [hrow] at cD
  exact cD
theorem simple {x q : Row} {l : Nat} {M : Nat → Row} (hq : SqP x q) (hl : 1 ≤ l) (hC : SCp M l) (hE : SCe M l) (hM0 : M 0 = ppos q) (hM1 : Pp (M 1) (dv (ppos q))) : dl (M l) = 1 := by
  obtain ⟨l0, L, a1, a2, a3, a4, a5, q9, a7, a8, q0⟩ := hq
  have hl0 := (hC.1 l (Nat.le_refl _)).1
  have hl9 := (hC.1 l (Nat.le_refl _)).2
  rcases Nat.lt_or_ge (dl (M l)) 2 with e | e
  · omega
  exfalso
  -- D
  have hDp := cnt_pp hl9 hl0
  have hD9 : ∀ i, 9 ≤ i → ppos (M l) i = 0 := fun i hi => pp9 hl9 hi
  have hdD : dl (ppos (M l)) = dl (M l) := dl_pp hl9 hl0
  have hPr := prim_of hDp
  have v0 := chain_dvd hl hC hE 0 (Nat.zero_le _)
  have v1 := chain_dvd hl hC hE 1 hl
  generalize ppos (M l) = D at *
  rw [hM0] at v0
  obtain ⟨s1, t1, hs1, ht1, hD1⟩ := hM1
  have v2 : Dv D (dv (ppos q)) := by
    refine gauss hPr (t := t1) (by omega) ?_
    rw [show (fun m => t1 * dv (ppos q) m) = (fun m => s1 * M 1 m) from funext (fun m => (hD1 m).symm)]
    exact v1.mul s1
  have hkq := kap_ne q0
  have v3 : Dv D q := by
    have := v0.mul (kap q)
    rw [← fun_kap q9] at this
    exact this
  have v4 : Dv D (dv q) := by
    have h1 := v2.mul (kap q)
    refine (funext (fun m => ?_) : (fun m => kap q * dv (ppos q) m) = dv q) ▸ h1
    unfold dv
    rw [kap_pp q9 (m + 1)]
    grind
  have hD0 : dl D ≠ 0 := by omega
  obtain ⟨e1, e9, eq, ed, _, e0⟩ := dv_top hD9 q9 hD0 q0 v3
  have hdq := dl_dv q9
  obtain ⟨g1, g9, gq, _, _, _⟩ := dv_top hD9 (dv9 q9) hD0 (by omega) v4
  -- G
  have hL9 := (a2.1 l0 (Nat.le_refl _)).2
  have hL0 := (a2.1 l0 (Nat.le_refl _)).1
  have hG9 : ∀ i, 9 ≤ i → ppos (L l0) i = 0 := fun i hi => pp9 hL9 hi
  have hdG : dl (ppos (L l0)) = dl (L l0) := dl_pp hL9 hL0
  have hG0 : dl (ppos (L l0)) ≠ 0 := by omega
  have x9 := (a2.1 0 (Nat.zero_le _)).2
  rw [a4] at x9
  have hx1 := (a2.1 1 a1).1
  rw [a5] at hx1
  have v5 := chain_dvd a1 a2 a3 1 a1
  rw [a5] at v5
  obtain ⟨r, r9, rq, _, _, _⟩ := dv_top hG9 (dv9 x9) hG0 hx1 v5
  have claim : ∀ n : Nat, ∃ K H : Row, (∀ i, 9 ≤ i → K i = 0) ∧ (∀ i, 9 ≤ i → H i = 0) ∧ (∀ m, ppos (L l0) m = pm K H 9 m) ∧ dl K = n * (dl D - 1) + 1 ∧ dl H ≠ 0 ∧ ∀ t, val D t * val (dv K) t = (n : Int) * (val (dv D) t * val K t) := by
    intro n
    induction n with
    | zero =>
      refine ⟨one1, ppos (L l0), one9, hG9, fun m => (pm_one _ m).symm, by rw [dl_one, Nat.zero_mul], hG0, fun t => ?_⟩
      have : dv one1 = fun _ => 0 := by
        funext j
        unfold dv
        rw [show one1 (j + 1) = 0 from if_neg (by omega), Int.zero_mul]
      rw [this, show val (fun _ => (0 : Int)) t = 0 from hs_zero (fun _ _ => rfl), Int.mul_zero, show ((0 : Nat) : Int) = 0 from rfl, Int.zero_mul]
    | succ n ih =>
      obtain ⟨K, H, K9, H9, hKH, hdK, hH0, hKd⟩ := ih
      have hK0 : dl K ≠ 0 := by omega
      -- D divides H r
      have hY18 : ∀ i, 18 ≤ i → (((n : Int) + 1) * pm g1 H 9 i + (-(n : Int) * pm (dv e1) H 9 i + pm e1 (dv H) 9 i)) = 0 := fun i hi => by
        rw [pmz H9 9 i (by omega), pmz H9 9 i (by omega), pmz (dv9 H9) 9 i (by omega)]
        grind
      have hz := cancel (K := K) (F := fun m => pm H r 9 m + -1 * pm (fun i => (((n : Int) + 1) * pm g1 H 9 i + (-(n : Int) * pm (dv e1) H 9 i + pm e1 (dv H) 9 i))) D 18 m) (n := 27) K9 hK0 (by omega) (fun i hi => by
        show pm H r 9 i + -1 * pm _ D 18 i = 0
        rw [pmz r9 9 i (by omega), pmz hD9 18 i (by omega)]
        rfl) (fun t => by
        rw [v_add (fun m => pm H r 9 m), v_mul, vp H9 r9 (fun _ => rfl), val_pm2 hD9 18 (by omega), ← val9 (n := 18) hY18 (by omega), v_add (fun i => ((n : Int) + 1) * pm g1 H 9 i), v_add (fun i => -(n : Int) * pm (dv e1) H 9 i), v_mul, v_mul, vp g9 H9 (fun _ => rfl), vp (dv9 e9) H9 (fun _ => rfl), vp e9 (dv9 H9) (fun _ => rfl)]
        have x2 := vp r9 hG9 rq t
        have x3 := lb q9 hG9 a7 t
        have y1 := vp e9 hD9 eq t
        have y2 := vp g9 hD9 gq t
        have y3 := lb e9 hD9 eq t
        have w1 := vp K9 H9 hKH t
        have w2 := lb K9 H9 hKH t
        have w3 := hKd t
        rw [x3] at x2
        rw [y2] at y3
        rw [w1, w2, y1, y2] at x2
        clear x3 y1 y2 w1 w2 hKd hY18
        generalize val K t = vK at *
        generalize val (dv K) t = vK' at *
        generalize val H t = vH at *
        generalize val (dv H) t = vH' at *
        generalize val D t = vD at *
        generalize val (dv D) t = vD' at *
        generalize val r t = vr at *
        generalize val e1 t = ve at *
        generalize val (dv e1) t = ve' at *
        generalize val g1 t = vg at *
        generalize (n : Int) = N at *
        have z1 : ve * vD * (vK' * vH + vK * vH') = ve * vH * (vD * vK') + ve * vD * vK * vH' := by grind
        have z2 : ve * vH * (N * (vD' * vK)) = N * (ve * vD') * vH * vK := by grind
        have z3 : ve * vD' = vg * vD - ve' * vD := by omega
        rw [z1, w3, z2, z3] at x2
        have z4 : vK * (vH * vr + -1 * (((N + 1) * (vg * vH) + (-N * (ve' * vH) + ve * vH')) * vD)) = vr * (vK * vH) - (vg * vD * (vK * vH) + (N * (vg * vD - ve' * vD) * vH * vK + ve * vD * vK * vH')) := by grind
        rw [z4, x2, Int.sub_self])
      have w1 : Dv D (fun m => pm H r 9 m) := Dv.of (q := fun i => (((n : Int) + 1) * pm g1 H 9 i + (-(n : Int) * pm (dv e1) H 9 i + pm e1 (dv H) 9 i))) (n := 18) (fun m => by
        have h4 : pm H r 9 m + -1 * pm (fun i => (((n : Int) + 1) * pm g1 H 9 i + (-(n : Int) * pm (dv e1) H 9 i + pm e1 (dv H) 9 i))) D 18 m = 0 := hz m
        omega)
      have w2 : Dv D H := cop (q0 := q) (q1 := r) a1 a2 a3 hDp H9 q9 r9 (by rw [a4]; exact a7) (by rw [a5]; exact rq) (dv_pm H 9 v3) w1
      obtain ⟨b, b9, hb, bd, _, b0⟩ := dv_top hD9 H9 hD0 hH0 w2
      have hdKH := dl_pm K9 H9 hG9 hK0 hH0 hKH
      have hdGl := dl_le (ppos (L l0))
      have hKD9 : ∀ i, 9 ≤ i → pm K D 9 i = 0 := fun i hi => pm_top (d := dl K - 1) (e := dl D - 1) (fun j x _ => dl_zero K9 (by omega)) (fun j x => dl_zero hD9 (by omega)) (by omega)
      have hdKD := dl_pm (P := fun m => pm K D 9 m) K9 hD9 hKD9 hK0 hD0 (fun _ => rfl)
      refine ⟨fun m => pm K D 9 m, b, hKD9, b9, fun m => ?_, ?_, b0, fun t => ?_⟩
      · have hQ9 : ∀ i, 9 ≤ i → pm (fun m => pm K D 9 m) b 9 i = 0 := fun i hi => pm_top (d := dl (fun m => pm K D 9 m) - 1) (e := dl b - 1) (fun j x _ => dl_zero (c := fun m => pm K D 9 m) hKD9 (by omega)) (fun j x => dl_zero b9 (by omega)) (by omega)
        have := val_inj hG9 hQ9 (fun s => by
          rw [← val9 hG9 (by omega), ← val9 hQ9 (by omega), vp K9 H9 hKH, vp hKD9 b9 (fun _ => rfl), vp (P := fun m => pm K D 9 m) K9 hD9 (fun _ => rfl), vp b9 hD9 hb]
          generalize val K s = A
          generalize val D s = B
          generalize val b s = Cv
          grind)
        exact congrFun this m
      · rw [Nat.add_mul, Nat.one_mul]
        omega
      · have h1 := lb (P := fun m => pm K D 9 m) K9 hD9 (fun _ => rfl) t
        have h2 := vp (P := fun m => pm K D 9 m) K9 hD9 (fun _ => rfl) t
        have h3 := hKd t
        rw [h1, h2, show ((n + 1 : Nat) : Int) = (n : Int) + 1 by omega]
        generalize val K t = vK at *
        generalize val (dv K) t = vK' at *
        generalize val D t = vD at *
        generalize val (dv D) t = vD' at *
        generalize (n : Int) = N at *
        have h4 : vD * (vK' * vD + vK * vD') = (vD * vK') * vD + vD * vK * vD' := by grind
        rw [h4, h3]
        grind
  obtain ⟨K, H, K9, H9, hKH, hdK, _, _⟩ := claim 9
  have := dl_le K
  omega
