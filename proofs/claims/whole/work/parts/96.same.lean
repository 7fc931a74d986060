/-! MATHEMATICS: the class's chain and the reference's answer alike -/
theorem hvo_mul (s : Int) (c : Row) (a b : Int) : ∀ (n : Nat) (o t : Int), hvo (fun i => s * c i) a b n (s * o) t = s * hvo c a b n o t := by
  intro n
  induction n with
  | zero => intro o t; rfl
  | succ n ih =>
    intro o t
    show hvo (fun i => s * c i) a b n (s * o * a + s * c n * t) (t * b) = s * hvo c a b n (o * a + c n * t) (t * b)
    rw [← ih]
    congr 1
    grind
/-- the same signs, times e -/
def SgL (e : Int) (v w : Nat → Int) (l : Nat) : Prop := ∀ i, i ≤ l → sg32 (e * v i) = sg32 (w i)
theorem sg_pp {a b s t : Int} (hs : 0 < s) (ht : 0 < t) (h : s * a = t * b) : sg32 a = sg32 b := by
  rcases sg32_val a with ⟨h1, h2⟩ | ⟨h1, h2⟩ | ⟨h1, h2⟩
  · have h3 := Int.mul_neg_of_pos_of_neg hs h1
    rw [h2]
    rcases sg32_val b with ⟨h4, h5⟩ | ⟨h4, h5⟩ | ⟨h4, h5⟩
    · rw [h5]
    · rw [h4, Int.mul_zero] at h
      omega
    · have := Int.mul_pos ht h4
      omega
  · rw [h1, Int.mul_zero] at h
    rcases Int.mul_eq_zero.mp h.symm with e | e
    · omega
    · rw [h1, e]
  · have h3 := Int.mul_pos hs h1
    rw [h2]
    rcases sg32_val b with ⟨h4, h5⟩ | ⟨h4, h5⟩ | ⟨h4, h5⟩
    · have := Int.mul_neg_of_pos_of_neg ht h4
      omega
    · rw [h4, Int.mul_zero] at h
      omega
    · rw [h5]
theorem sst_sg {e : Int} {v w : Nat → Int} {l : Nat} (he : e = 1 ∨ e = -1) (h : SgL e v w l) : ∀ k, k ≤ l + 1 → (sst v k).1 = (sst w k).1 ∧ sg32 (e * (sst v k).2) = sg32 (sst w k).2 := by
  intro k
  induction k with
  | zero =>
    intro _
    refine ⟨rfl, ?_⟩
    show sg32 (e * 0) = sg32 0
    rw [Int.mul_zero]
  | succ k ih =>
    intro hk
    obtain ⟨i1, i2⟩ := ih (by omega)
    have i3 := h k (by omega)
    rw [sst_s, sst_s]
    have hc : v k * (sst v k).2 < 0 ↔ w k * (sst w k).2 < 0 := by
      have h1 : v k * (sst v k).2 = (e * v k) * (e * (sst v k).2) := by
        rcases he with e1 | e1 <;> rw [e1] <;> grind
      rw [h1, sg_cmp, sg_cmp, i2, i3]
    have hz : v k = 0 ↔ w k = 0 := by
      rw [← sg32_eq0 (x := w k), ← i3, sg32_eq0]
      rcases he with e1 | e1 <;> rw [e1] <;> omega
    constructor
    · show (if _ then _ else _) = (if _ then _ else _)
      by_cases e1 : v k * (sst v k).2 < 0
      · rw [if_pos e1, if_pos (hc.mp e1), i1]
      · rw [if_neg e1, if_neg (fun z => e1 (hc.mpr z)), i1]
    · show sg32 (e * (if v k = 0 then _ else _)) = sg32 (if w k = 0 then _ else _)
      by_cases e1 : v k = 0
      · rw [if_pos e1, if_pos (hz.mp e1)]
        exact i2
      · rw [if_neg e1, if_neg (fun z => e1 (hz.mpr z))]
        exact i3
/-- rows alike up to factors above 0, and one sign -/
def ChS (e : Int) (L M : Nat → Row) (l : Nat) : Prop := ∀ i, i ≤ l → Pp (fun m => e * L i m) (M i)
theorem e_dl {e : Int} (he : e = 1 ∨ e = -1) (c : Row) : dl (fun m => e * c m) = dl c := by
  rcases he with e1 | e1
  · subst e1
    congr 1
    funext m
    rw [Int.one_mul]
  · subst e1
    rw [← dl_neg c]
    congr 1
    funext m
    omega
theorem chs_at {e : Int} {L M : Nat → Row} {l : Nat} (he : e = 1 ∨ e = -1) (h : ChS e L M l) (p : Int) : SgL e (vAt L p) (vAt M p) l := by
  intro i hi
  have h1 := h i hi
  have hd := h1.dle
  rw [e_dl he] at hd
  obtain ⟨s, t, hs, ht, h2⟩ := h1
  refine sg_pp hs ht ?_
  unfold vAt
  rw [hd]
  have h3 := hvo_mul (s * e) (L i) p 1 (dl (M i)) 0 1
  have h4 := hvo_mul t (M i) p 1 (dl (M i)) 0 1
  rw [Int.mul_zero] at h3 h4
  rw [← Int.mul_assoc, ← h3, ← h4]
  congr 1
  funext m
  rw [Int.mul_assoc]
  exact h2 m
theorem lc_e {e : Int} (he : e = 1 ∨ e = -1) (c : Row) : lc (fun m => e * c m) = e * lc c := by
  unfold lc
  rw [e_dl he]
  split
  · rw [Int.mul_zero]
  · rfl
theorem chs_far {e : Int} {L M : Nat → Row} {l : Nat} (he : e = 1 ∨ e = -1) (h : ChS e L M l) (b : Bool) : SgL e (vFar L b) (vFar M b) l := by
  intro i hi
  have h1 := h i hi
  have hd := h1.dle
  have hd' := hd
  rw [e_dl he] at hd
  obtain ⟨s, t, hs, ht, h2⟩ := h1
  have hlc : s * (e * lc (L i)) = t * lc (M i) := by
    rw [← lc_e he]
    unfold lc
    rw [hd']
    split
    · rw [Int.mul_zero, Int.mul_zero]
    · exact h2 _
  refine sg_pp hs ht ?_
  unfold vFar
  rw [hd]
  split
  · grind
  · exact hlc
theorem chs_cnt {e : Int} {L M : Nat → Row} {l : Nat} (he : e = 1 ∨ e = -1) (h : ChS e L M l) : (∀ p, cAt L l p = cAt M l p) ∧ (∀ b, cFar L l b = cFar M l b) ∧ ∀ p, (vAt L p 0 = 0 ↔ vAt M p 0 = 0) := by
  refine ⟨fun p => (sst_sg he (chs_at he h p) (l + 1) (Nat.le_refl _)).1, fun b => (sst_sg he (chs_far he h b) (l + 1) (Nat.le_refl _)).1, fun p => ?_⟩
  have h1 := chs_at he h p 0 (Nat.zero_le _)
  rw [← sg32_eq0 (x := vAt M p 0), ← h1, sg32_eq0]
  rcases he with e1 | e1 <;> rw [e1] <;> omega
theorem chs_rbl {e : Int} {L M : Nat → Row} {l : Nat} (he : e = 1 ∨ e = -1) (h : ChS e L M l) (p : Int) : rbl L l p = rbl M l p := by
  obtain ⟨h1, h2, h3⟩ := chs_cnt he h
  unfold rbl
  rw [h1, h2]
  by_cases e1 : vAt L p 0 = 0
  · rw [if_pos e1, if_pos ((h3 p).mp e1)]
  · rw [if_neg e1, if_neg (fun z => e1 ((h3 p).mpr z))]
theorem chs_flr {e : Int} {L M : Nat → Row} {l : Nat} (he : e = 1 ∨ e = -1) (h : ChS e L M l) (k : Int32) : flr L l k = flr M l k := by
  have : rbl L l = rbl M l := funext (chs_rbl he h)
  unfold flr
  rw [this]
theorem scp_neg {L : Nat → Row} {l : Nat} (h : SCp L l) : SCp (fun i m => -1 * L i m) l := by
  refine ⟨fun i hi => ⟨?_, fun m hm => by show -1 * L i m = 0; rw [(h.1 i hi).2 m hm]; rfl⟩, fun i h1 h2 => ?_⟩
  · show dl (fun m => -1 * L i m) ≠ 0
    rw [e_dl (Or.inr rfl)]
    exact (h.1 i hi).1
  · obtain ⟨d, u, s, q, n, hu, hs, he⟩ := h.2 i h1 h2
    refine ⟨?_, u, s, q, n, hu, hs, fun m => ?_⟩
    · show dl (fun m => -1 * L (i + 1) m) < dl (fun m => -1 * L i m)
      rw [e_dl (Or.inr rfl), e_dl (Or.inr rfl)]
      exact d
    · show u * (-1 * L (i - 1) m) + s * (-1 * L (i + 1) m) = pm q (fun m => -1 * L i m) n m
      rw [pm_mulR, ← he m]
      grind
theorem sce_neg {L : Nat → Row} {l : Nat} (h : SCe L l) : SCe (fun i m => -1 * L i m) l := by
  obtain ⟨u, q, n, hu, he⟩ := h
  refine ⟨u, q, n, hu, fun m => ?_⟩
  show u * (-1 * L (l - 1) m) = pm q (fun m => -1 * L l m) n m
  rw [pm_mulR, ← he m]
  grind
/-- two quotients are one -/
theorem pm_cancel {q q' G : Row} (hq : ∀ i, 9 ≤ i → q i = 0) (hq' : ∀ i, 9 ≤ i → q' i = 0) (hG9 : ∀ i, 9 ≤ i → G i = 0) (hG : dl G ≠ 0) (h : ∀ m, pm q G 9 m = pm q' G 9 m) : q = q' := by
  have h1 : ∀ m, pm (fun i => q i + -1 * q' i) G 9 m = 0 := fun m => by
    rw [pm_add, pm_mul, h m]
    omega
  have hz : dl (fun i => q i + -1 * q' i) = 0 := by
    by_cases e : dl (fun i => q i + -1 * q' i) = 0
    · exact e
    · exfalso
      have hle := dl_le (fun i => q i + -1 * q' i)
      have h2 := pm_lead (q := fun i => q i + -1 * q' i) (G := G) (n := 9) (d := dl (fun i => q i + -1 * q' i) - 1) (e := dl G - 1) (by omega) (fun i a b => ln_zero (show ln (fun i => q i + -1 * q' i) 9 ≤ i by have : ln (fun i => q i + -1 * q' i) 9 = dl (fun i => q i + -1 * q' i) := rfl; omega) b) (fun i hi => dl_zero hG9 (by omega))
      rw [h1] at h2
      have h3 : (fun i => q i + -1 * q' i) (dl (fun i => q i + -1 * q' i) - 1) ≠ 0 := ln_top e
      have h4 : G (dl G - 1) ≠ 0 := ln_top hG
      exact Int.mul_ne_zero h3 h4 h2.symm
  funext i
  have : (fun i => q i + -1 * q' i) i = 0 := dl_zero (fun i hi => by show q i + -1 * q' i = 0; rw [hq i hi, hq' i hi]; rfl) (by omega)
  have h5 : q i + -1 * q' i = 0 := this
  omega
theorem sqp_uniq {x q q' : Row} (h : SqP x q) (h' : SqP x q') : q = q' := by
  obtain ⟨l, L, a1, a2, a3, a4, a5, a6, a7, a8, a9⟩ := h
  obtain ⟨l', L', b1, b2, b3, b4, b5, b6, b7, b8, b9⟩ := h'
  obtain ⟨g1, g2⟩ := chain_uniq a1 b1 a2 a3 b2 b3 (by rw [a4, b4]; exact Pp.refl _) (by rw [a5, b5]; exact Pp.refl _)
  subst g1
  have hl9 := (a2.1 l (Nat.le_refl _)).2
  have hl0 := (a2.1 l (Nat.le_refl _)).1
  have hp : ppos (L l) = ppos (L' l) := (g2 l (Nat.le_refl _)).pp hl9 (b2.1 l (Nat.le_refl _)).2 hl0
  refine pm_cancel a6 b6 (G := ppos (L l)) (fun i hi => pp9 hl9 hi) (by rw [dl_pp hl9 hl0]; exact hl0) (fun m => ?_)
  rw [← a7 m, hp, ← b7 m]
theorem once_uniq {x S S' : Row} (h : Once x S) (h' : Once x S') : S = S' := by
  rcases h with ⟨e, h⟩ | ⟨e, q, h1, h2⟩
  · rcases h' with ⟨_, h'⟩ | ⟨e', _⟩
    · rw [h, h']
    · omega
  · rcases h' with ⟨e', _⟩ | ⟨_, q', h1', h2'⟩
    · omega
    · rw [h2, h2', sqp_uniq h1 h1']
/-- the chain's first row is the simple part, up to a factor -/
theorem prep_once {x S : Row} {l : Nat} {L : Nat → Row} (h9 : ∀ i, 9 ≤ i → x i = 0) (hP : 2 ≤ dl x ∧ 1 ≤ l ∧ SCp L l ∧ SCe L l ∧ L 1 = dv (L 0) ∧ ((L 0 = x ∧ dl (L l) = 1) ∨ SqP x (L 0))) (hO : Once x S) : S = ppos (L 0) ∧ SqP x (L 0) := by
  obtain ⟨h1, h2, h3, h4, h5, h6⟩ := hP
  rcases hO with ⟨e, _⟩ | ⟨_, q, hq, hS⟩
  · omega
  · rcases h6 with ⟨e0, e1⟩ | h6
    · have hq' := hq
      obtain ⟨l', L', b1, b2, b3, b4, b5, b6, b7, b8, b9⟩ := hq'
      obtain ⟨g1, g2⟩ := chain_uniq h2 b1 h3 h4 b2 b3 (by rw [e0, b4]; exact Pp.refl _) (by rw [h5, e0, b5]; exact Pp.refl _)
      subst g1
      have hd := (g2 l (Nat.le_refl _)).dle
      have hone := pp_const (b2.1 l (Nat.le_refl _)).2 (by omega)
      have hqx : q = x := by
        funext i
        rw [b7 i, hone, pm_const (B := one1) (fun m hm => if_neg (by omega))]
        by_cases e2 : i < 9
        · rw [if_pos e2, show one1 0 = 1 from rfl, Int.mul_one]
        · rw [if_neg e2, b6 i (by omega)]
      rw [hS, hqx, e0]
      exact ⟨rfl, by rw [← hqx]; rw [hqx] at hq ⊢; exact hq⟩
    · rw [hS, sqp_uniq hq h6]
      exact ⟨rfl, h6⟩
/-- what both chains answer -/
def Alike (L M : Nat → Row) (l l' : Nat) : Prop := (∀ p, cAt L l p = cAt M l' p) ∧ (∀ b, cFar L l b = cFar M l' b) ∧ ∀ k, flr L l k = flr M l' k
theorem one_cnt (v : Nat → Int) : (sst v 1).1 = 0 := by
  rw [sst_s]
  show (if v 0 * (0 : Int) < 0 then _ else _) = 0
  rw [Int.mul_zero, if_neg (by omega)]
  rfl
theorem alike {x S : Row} {l l' : Nat} {L M : Nat → Row} (h9 : ∀ i, 9 ≤ i → x i = 0) (hP : Prep x l L) (hO : Once x S) (hR : RCh S l' M) (hc : cnt S = 1) (hl : 0 < lc S) : Alike L M l l' := by
  obtain ⟨r1, r2, r3, r4⟩ := hR
  rcases hP with ⟨p1, p2, p3⟩ | hP
  · subst p2
    have hS : S = one1 := by
      rcases hO with ⟨_, h⟩ | ⟨e, _⟩
      · exact h
      · omega
    have hl0 : l' = 0 := by
      rcases r4 with ⟨_, e⟩ | ⟨e, _⟩
      · exact e
      · rw [hS, dl_one] at e
        omega
    subst hl0
    have hc0 : ∀ (N : Nat → Row) p, cAt N 0 p = 0 := fun N p => one_cnt _
    have hf0 : ∀ (N : Nat → Row) b, cFar N 0 b = 0 := fun N b => one_cnt _
    have hx0 : x 0 ≠ 0 := by
      have : x (dl x - 1) ≠ 0 := ln_top (show dl x ≠ 0 by omega)
      rw [p1] at this
      exact this
    have hvL : ∀ p, vAt L p 0 ≠ 0 := fun p => by
      unfold vAt
      rw [p3, p1]
      show 0 * p + x 0 * 1 ≠ 0
      omega
    have hvM : ∀ p, vAt M p 0 ≠ 0 := fun p => by
      unfold vAt
      rw [r1, hS, dl_one]
      show 0 * p + one1 0 * 1 ≠ 0
      rw [show one1 0 = 1 from rfl]
      omega
    have hr : rbl L 0 = rbl M 0 := funext (fun p => by
      unfold rbl
      rw [if_neg (hvL p), if_neg (hvM p), hc0, hc0, hf0, hf0])
    refine ⟨fun p => by rw [hc0, hc0], fun b => by rw [hf0, hf0], fun k => ?_⟩
    unfold flr
    rw [hr]
  · obtain ⟨hS, hq⟩ := prep_once h9 hP hO
    obtain ⟨h1, h2, h3, h4, h5, h6⟩ := hP
    have hL09 := (h3.1 0 (Nat.zero_le _)).2
    have hL00 := (h3.1 0 (Nat.zero_le _)).1
    have hdS : dl S = dl (L 0) := by rw [hS]; exact dl_pp hL09 hL00
    have hd2 : 2 ≤ dl S := by
      have := (h3.1 1 h2).1
      rw [h5, dl_dv hL09] at this
      omega
    rcases r4 with ⟨e, _⟩ | ⟨_, k1, k2, k3, k4⟩
    · omega
    have hkap := kap_ne hL00
    have hLS : ∀ m, L 0 m = kap (L 0) * S m := fun m => by rw [hS]; exact kap_pp hL09 m
    have hLdS : ∀ m, dv (L 0) m = kap (L 0) * dv S m := fun m => by
      unfold dv
      rw [hLS]
      grind
    have main : ∃ e : Int, (e = 1 ∨ e = -1) ∧ l = l' ∧ ChS e L M l := by
      rcases Int.lt_or_gt_of_ne hkap with e | e
      · have n1 := scp_neg h3
        have n2 := sce_neg h4
        have z0 : Pp (fun m => -1 * L 0 m) (M 0) := ⟨1, -(kap (L 0)), by omega, by omega, fun m => by
          show 1 * (-1 * L 0 m) = _
          rw [r1, hLS m]
          grind⟩
        have z1 : Pp (fun m => -1 * L 1 m) (M 1) := Pp.trans (B := dv S) ⟨1, -(kap (L 0)), by omega, by omega, fun m => by
          show 1 * (-1 * L 1 m) = _
          rw [h5, hLdS m]
          grind⟩ k4.symm
        obtain ⟨g1, g2⟩ := chain_uniq h2 k1 n1 n2 k2 k3 z0 z1
        exact ⟨-1, Or.inr rfl, g1, fun i hi => g2 i hi⟩
      · have z0 : Pp (L 0) (M 0) := ⟨1, kap (L 0), by omega, e, fun m => by
          rw [Int.one_mul, r1]
          exact hLS m⟩
        have z1 : Pp (L 1) (M 1) := Pp.trans (B := dv S) ⟨1, kap (L 0), by omega, e, fun m => by
          rw [h5, Int.one_mul]
          exact hLdS m⟩ k4.symm
        obtain ⟨g1, g2⟩ := chain_uniq h2 k1 h3 h4 k2 k3 z0 z1
        refine ⟨1, Or.inl rfl, g1, fun i hi => ?_⟩
        have : (fun m => 1 * L i m) = L i := funext (fun m => Int.one_mul _)
        rw [this]
        exact g2 i hi
    obtain ⟨e, he, hll, hCh⟩ := main
    subst hll
    obtain ⟨c1, c2, c3⟩ := chs_cnt he hCh
    exact ⟨c1, c2, chs_flr he hCh⟩
