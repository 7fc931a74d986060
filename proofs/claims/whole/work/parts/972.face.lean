/-! PURE: the face: coefficient, word -/
theorem cK_s (σ : CS) (k j : Nat) (v : Int32) : cK (sK σ k v) j = if j = k then v else cK σ j := by
  show va_up σ.2.2.2.2 k v j = _
  unfold va_up
  rfl
theorem Pl.sK {σ : CS} {p k : Nat} {c : Row} {v : Int32} (h : Pl σ p c) : Pl (sK σ k v) p c := h
theorem pl_setC {σ σ' : CS} {c : Nat → Row} {d : Nat} {Y : Row} (hC : ∀ p, p < 8 → Pl σ p (c p)) (hY : Pl σ' d Y) (hf : Cg σ σ' (inP d) (fun z => z = d)) : ∀ p, p < 8 → Pl σ' p (setC c d Y p) := fun p hp => by
  by_cases e : p = d
  · rw [e, setC_e]
    exact hY
  · rw [setC_n e]
    exact (hC p hp).cg hf (fun w hw => inP_ne e hw) e
theorem pr_setC {ρ ρ' : RS} {c : Nat → Row} {d : Nat} {Y : Row} (hC : ∀ p, p < 8 → PR ρ p (c p)) (hY : PR ρ' d Y) (hf : Cq ρ ρ' (fun n => inR d n ∨ tmR n) (fun z => z = d)) : ∀ p, p < 8 → PR ρ' p (setC c d Y p) := fun p hp => by
  by_cases e : p = d
  · rw [e, setC_e]
    exact hY
  · rw [setC_n e]
    exact (hC p hp).cq hf (fun n hn => by unfold inR at hn; unfold inR tmR; omega) e
theorem bd_setC {c : Nat → Row} {d : Nat} {Y : Row} (hC : ∀ p, p < 8 → ∀ i, (c p i).natAbs < 2147483648 ^ 6) (hY : ∀ i, (Y i).natAbs < 2147483648 ^ 6) : ∀ p, p < 8 → ∀ i, (setC c d Y p i).natAbs < 2147483648 ^ 6 := fun p hp i => by
  by_cases e : p = d
  · rw [e, setC_e]
    exact hY i
  · rw [setC_n e]
    exact hC p hp i
theorem st_coefficient (σ : CS) (ρ : RS) (hR : Rel σ ρ) (a1 a2 a3 : Int32) : wpX4_coefficient a1 a2 a3 σ (fun r σ1 => wpX5_coefficient a1 a2 a3 ρ (fun r1 ρ1 => r = r1 ∧ Rel σ1 ρ1)) := by
  obtain ⟨c, h, hC, hF, hH⟩ := hR
  have hC0 : RelC (sK σ 1 (-1)) c none := ⟨fun p hp => hC.1 p hp, hC.2.1, by show cK (sK σ 1 (-1)) 1 = -1; rw [cK_s, if_pos rfl]⟩
  have hF0 : RelR (wK ρ 0 (-1)) c none := ⟨fun p hp => hF.1 p hp, by show rK (wK ρ 0 (-1)) 0 = -1; rw [rK_wK, if_pos rfl]⟩
  have hR0 : Rel (sK σ 1 (-1)) (wK ρ 0 (-1)) := ⟨c, none, hC0, hF0, trivial⟩
  show wpX4_coefficient_0 a1 a2 a3 _ σ
  unfold wpX4_coefficient_0
  rcases reg_or a1 with ⟨p, hp, rfl⟩ | e
  · rcases pow_or a2 with ⟨i, hi, rfl⟩ | e2
    · refine isC4_t hp hi ⟨fun _ => ⟨pk_in p _ hp, ?_⟩, fun h1 => absurd h1 (by decide)⟩
      rw [nI_clamp (by omega), nI_clamp (by omega), tl8 hp]
      refine ⟨pk_in i _ hi, sp_clear (fun σ6 f1 f2 => ⟨pk_in p _ hp, ?_⟩)⟩
      have hP0 := hC0.1 p hp
      have h9 : ∀ k, 9 ≤ k → pu (c p) i 0 k = 0 := fun k hk => by rw [pu_n (by omega)]; exact hP0.i9 k hk
      refine sp_measure (c := pu (c p) i 0) (by omega) (fun k hk => ?_) (fun k hk => h9 k (by rw [tl8 hp] at hk; exact hk)) (fun σ9 f3 f4 => ?_)
      · by_cases e : k = i
        · rw [e, pu_e]
          exact f1
        · rw [pu_n e]
          exact (hP0.1 k hk).ch f2 (by omega)
      have hfr : Cg (sK σ 1 (-1)) σ9 (inP p) (fun z => z = p) := ((f2.p (by omega)).mono (fun _ z => z) (fun _ z => z.elim)).trans (f4.mono (fun _ z => z.elim) (fun _ z => z))
      -- both sides, for a sign
      have both : ∀ s : Int32, (s = 1 ∨ s = -1) → (∀ Q : Int32 → RS → Prop, wpX5_coefficient_44 (nI p) (nI i) a3 Q (wK (wK (wK (wK ρ 0 (-1)) 0 (nI p)) 1 (nI i)) 2 s) → wpX5_coefficient (nI p) (nI i) a3 ρ Q) → wpX5_coefficient (nI p) (nI i) a3 ρ (fun r1 ρ1 => (1 : Int32) = r1 ∧ Rel (sK (sK (sK (sK σ9 1 (nI p)) 2 (nI i)) 3 s) 4 0) ρ1) := by
        intro s hs hgo
        refine hgo _ ?_
        unfold wpX5_coefficient_44
        rw [at_eq, ia]
        refine sp_rzero (by omega) (fun ρ4 g1 g2 => ?_)
        have hPR : ∀ q, q < 8 → PR (wK (wK (wK (wK (wK ρ 0 (-1)) 0 (nI p)) 1 (nI i)) 2 s) 3 0) q (c q) := fun q hq => hF.1 q hq
        refine sp_rmeasure (c := pu (c p) i 0) (by omega) (fun k hk => ?_) h9 (fun ρ6 g3 g4 => ?_)
        · by_cases e : k = i
          · rw [e, pu_e]
            exact g1
          · rw [pu_n e]
            exact ((hPR p hp).1 k hk).cr g2 (by omega)
        have hfq : Cq (wK (wK (wK (wK (wK ρ 0 (-1)) 0 (nI p)) 1 (nI i)) 2 s) 3 0) ρ6 (fun n => inR p n ∨ tmR n) (fun z => z = p) := ((g2.pq hi (fun z => z = p)).mono (fun n hn => Or.inl hn) (fun _ z => z)).trans (g4.mono (fun _ z => z.elim) (fun _ z => z))
        refine ⟨rfl, setC c p (pu (c p) i 0), some (p, i, 0, s, fun _ => 0), ⟨fun q hq => Pl.sK (Pl.sK (Pl.sK (Pl.sK (pl_setC (fun q hq => hC0.1 q hq) f3 hfr q hq)))), bd_setC hC.2.1 (fun k => ?_), ?_⟩, ⟨pr_setC hPR g3 hfq, ?_⟩, ⟨hp, hi, by omega, hs, fun k hk => absurd hk (by omega), ?_, ?_⟩⟩
        · by_cases e : k = i
          · rw [e, pu_e]
            exact Nat.pow_pos (by omega)
          · rw [pu_n e]
            exact hC.2.1 p hp k
        · refine ⟨?_, ?_, ?_, ?_, fun k hk => absurd hk (by omega)⟩
          · rw [cK_s, if_neg (by omega), cK_s, if_neg (by omega), cK_s, if_neg (by omega), cK_s, if_pos rfl]
          · rw [cK_s, if_neg (by omega), cK_s, if_neg (by omega), cK_s, if_pos rfl]
          · rw [cK_s, if_neg (by omega), cK_s, if_pos rfl]
          · rw [cK_s, if_pos rfl]
            rfl
        · have hk6 := hfq.2.2.2
          refine ⟨?_, ?_, ?_, ?_, fun k hk => absurd hk (by omega)⟩
          · rw [hk6, rK_wK, if_neg (by omega), rK_wK, if_neg (by omega), rK_wK, if_neg (by omega), rK_wK, if_pos rfl]
          · rw [hk6, rK_wK, if_neg (by omega), rK_wK, if_neg (by omega), rK_wK, if_pos rfl]
          · rw [hk6, rK_wK, if_neg (by omega), rK_wK, if_pos rfl]
          · rw [hk6, rK_wK, if_pos rfl]
            rfl
        · rw [setC_e, pu_e]
          rfl
        · intro h1
          rw [setC_e, pu_e] at h1
          exact absurd rfl h1
      unfold wpX4_coefficient_61
      refine ⟨fun h1 => both 1 (Or.inl rfl) (fun Q hq => ?_), fun h1 => both (-1) (Or.inr rfl) (fun Q hq => ?_)⟩
      · show wpX5_coefficient_0 (nI p) (nI i) a3 Q ρ
        unfold wpX5_coefficient_0
        exact isR5_t hp ⟨fun h2 => absurd h2 (by decide), fun _ => isP5_t hi ⟨fun _ => ⟨fun _ => hq, fun h2 => absurd h1 h2⟩, fun h2 => absurd h2 (by decide)⟩⟩
      · show wpX5_coefficient_0 (nI p) (nI i) a3 Q ρ
        unfold wpX5_coefficient_0
        exact isR5_t hp ⟨fun h2 => absurd h2 (by decide), fun _ => isP5_t hi ⟨fun _ => ⟨fun h2 => absurd h2 h1, fun _ => hq⟩, fun h2 => absurd h2 (by decide)⟩⟩
    · refine isC4_f2 hp e2 ⟨fun h1 => absurd rfl h1, fun _ => ?_⟩
      show wpX5_coefficient_0 (nI p) a2 a3 _ ρ
      unfold wpX5_coefficient_0 wpX5_coefficient_19
      exact isR5_t hp ⟨fun h1 => absurd h1 (by decide), fun _ => isP5_f e2 ⟨fun h1 => absurd rfl h1, fun _ => ⟨rfl, hR0⟩⟩⟩
  · refine isC4_f1 e ⟨fun h1 => absurd rfl h1, fun _ => ?_⟩
    show wpX5_coefficient_0 a1 a2 a3 _ ρ
    unfold wpX5_coefficient_0 wpX5_coefficient_19
    exact isR5_f e ⟨fun _ => ⟨rfl, hR0⟩, fun h1 => absurd rfl h1⟩
theorem mag_mg {f : Nat → Int32} {w : Nat → Nat} {n : Nat} (h : ∀ k, k < n → f k = nI (w k) ∧ w k < 2147483648) : mag f n = mg w n := by
  induction n with
  | zero => rfl
  | succ n ih =>
    rw [mag_s, mg_s, ih (fun k hk => h k (by omega)), dg_nI (h n (by omega)).1 (h n (by omega)).2]
theorem mg_ltn {w : Nat → Nat} {n : Nat} (h : ∀ k, k < n → w k < 2147483648) : mg w n < 2147483648 ^ n := by
  have h1 := mag_mg (f := fun k => nI (w k)) (w := w) (n := n) (fun k hk => ⟨rfl, h k hk⟩)
  rw [← h1]
  exact mag_lt _ _
theorem mg_congr {a b : Nat → Nat} {n : Nat} (h : ∀ k, k < n → a k = b k) : mg a n = mg b n := by
  induction n with
  | zero => rfl
  | succ n ih => rw [mg_s, mg_s, ih (fun k hk => h k (by omega)), h n (by omega)]
theorem rH_wH {ρ : RS} {n k : Nat} {v : Int32} (hn : n < 6) : rH (wH ρ (nI n) v) k = if k = n then v else rH ρ k := by
  show upd ρ.2.2.2.2.1 (nI n).toNatClampNeg v k = _
  rw [nI_clamp (by omega)]
  by_cases e : k = n
  · rw [if_pos e, e, upd_e]
  · rw [if_neg e, upd_n e]
    rfl
theorem rH_wK (ρ : RS) (k : Nat) (v : Int32) : rH (wK ρ k v) = rH ρ := rfl
/-- the loop of the reference's word -/
theorem sp_rword {q n : Nat} {w : Nat → Nat} {x1 : Int32} {y : Int} {ρ : RS} {Q : Int32 → RS → Prop} (hq : q < 72) (hn : n ≤ 6) (h0 : RpR ρ q 0) (hw : ∀ k, k < n → w k < 2147483648 ∧ rH ρ k = nI (w k)) (hy : y.natAbs = mg w n) (hs : y ≠ 0 → rK ρ 2 = sg32 y)
    (hQ : ∀ ρ', RpR ρ' q y → Cr ρ ρ' (fun z => z = q ∨ tmR z) → wpX5_word_140 x1 Q ρ') {a : Int32} (ha : a = nI n - 1) : ∃ m, lq3 (wbX5_word_67 x1 Q) m (nI q) a ρ := by
  refine lq3_i (I := fun i2 i3 τ => i2 = nI q ∧ ∃ k V, k ≤ n ∧ i3 = nI k - 1 ∧ RpR τ q ((V : Nat) : Int) ∧ V * 2147483648 ^ k + mg w k = mg w n ∧ Cr ρ τ (fun z => z = q ∨ tmR z)) (μ := fun _ i3 _ => (i3 + 1).toNatClampNeg) ?_ _ _ _ ⟨rfl, n, 0, Nat.le_refl _, ha, h0, by omega, Cr.refl _ _⟩
  rintro N i2 i3 τ ⟨rfl, k, V, hk, rfl, hV, hVe, hC⟩ hN
  have hml := mg_ltn (fun j hj => (hw j hj).1)
  have hVb : V < 2147483648 ^ 6 := by
    have h1 : V * 1 ≤ V * 2147483648 ^ k := Nat.mul_le_mul_left _ (Nat.pow_pos (by omega))
    have h2 : 2147483648 ^ n ≤ 2147483648 ^ 6 := Nat.pow_le_pow_right (by omega) hn
    omega
  unfold wbX5_word_67
  rw [dg_lt0 (by omega), nI_clamp (by omega)]
  have hK : ∀ j, rK τ j = rK ρ j := fun j => by unfold rK; rw [hC.2]
  have hHH : ∀ j, rH τ j = rH ρ j := fun j => by unfold rH; rw [hC.2]
  refine ⟨fun h1 => ⟨pk_in q _ (by omega), ?_⟩, fun h1 => ⟨pk_in q _ (by omega), ?_⟩⟩
  · subst h1
    have hVn : V = mg w n := by
      have : mg w 0 = 0 := rfl
      rw [this, Nat.pow_zero] at hVe
      omega
    have hsz : rS τ q = 0 ↔ V = 0 := by
      obtain ⟨s, D, h2, h3, h4, h5, h6⟩ := hV.raw
      have := vq_0 h5
      rw [h3, show (0 : Int32) = nI 0 from rfl, nI_eq (by omega) (by omega)]
      omega
    rw [hsz, hK]
    have hgo : ∀ g, g = sg32 y → wpX5_word_140 x1 Q (wG τ (nI q) g) := fun g hg => hQ _ (hV.wG (by omega) (by omega) hg) (hC.wG (by omega) (Or.inl rfl) _)
    refine ⟨fun h2 => ⟨pk_in q _ (by omega), hgo _ (hs (by omega))⟩, fun h2 => ⟨pk_in q _ (by omega), hgo _ ?_⟩⟩
    rw [show y = 0 by omega]
    rfl
  · obtain ⟨u, rfl⟩ : ∃ u, k = u + 1 := ⟨k - 1, by omega⟩
    rw [nI_pred]
    have step : ∀ τ1, RpR τ1 q ((V * 2147483648 : Nat) : Int) → Cr ρ τ1 (fun z => z = q ∨ tmR z) → wpX5_word_87 x1 Q N (nI q) (nI u) τ1 := by
      intro τ1 f1 f2
      unfold wpX5_word_87
      refine ⟨pk_in u _ (by omega), ?_⟩
      have hh : rH τ1 u = nI (w u) := by
        have : rH τ1 u = rH ρ u := by unfold rH; rw [f2.2]
        rw [this]
        exact (hw u (by omega)).2
      have hwu := (hw u (by omega)).1
      rw [nI_clamp (by omega), hh, nI_l (by omega)]
      refine sp_rput (n := 216) (v := w u) (g := ((w u : Nat) : Int)) (by omega) (by omega) (Or.inl ⟨rfl, rfl⟩) (fun τ2 f3 f4 => ?_)
      have hbd : V * 2147483648 + w u < 268435456 ^ 430 := by
        have h2 : V * 2147483648 + w u < 2147483648 ^ 7 := by
          rw [show (2147483648 : Nat) ^ 7 = 2147483648 ^ 6 * 2147483648 from Nat.pow_succ 2147483648 6]
          generalize (2147483648 : Nat) ^ 6 = P at *
          omega
        exact cp300 h2 (by omega)
      refine sp_rsum (e := 1) (b := 216) (by omega) (by omega) (by omega) (f1.cr f4 (by omega)) f3 (Or.inl ⟨rfl, rfl⟩) (by omega) (fun τ3 f5 f6 a7 ha7 => ?_)
      subst ha7
      refine hN _ _ _ ⟨rfl, u, V * 2147483648 + w u, by omega, (Int32.sub_eq_add_neg _ _).symm, ?_, ?_, (f2.trans (f4.mono (fun z hz => Or.inr (by unfold tmR; omega)))).trans (f6.mono (fun z hz => Or.inl hz))⟩ ?_
      · rw [show ((V * 2147483648 + w u : Nat) : Int) = ((V * 2147483648 : Nat) : Int) + 1 * ((w u : Nat) : Int) by omega]
        exact f5
      · rw [← hVe, mg_s, Nat.pow_succ]
        generalize 2147483648 ^ u = P
        grind
      · show (nI u + (-1) + 1).toNatClampNeg < (nI (u + 1) - 1 + 1).toNatClampNeg
        rw [m1p1, nI_pred, nI_1, nI_clamp (by omega), nI_clamp (by omega)]
        omega
    rw [hV.sz]
    refine ⟨fun h2 => step τ ?_ hC, fun h2 => ?_⟩
    · have : V = 0 := by omega
      subst this
      exact hV
    · refine sp_rshift (k := 31) (by omega) (by omega) hV (by omega) ?_ (fun τ1 f1 f2 => step τ1 ?_ (hC.trans (f2.mono (fun z hz => Or.inl hz))))
      · have h3 : V * 2147483648 < 2147483648 ^ 7 := by
          rw [show (2147483648 : Nat) ^ 7 = 2147483648 ^ 6 * 2147483648 from Nat.pow_succ 2147483648 6]
          generalize (2147483648 : Nat) ^ 6 = P at *
          omega
        have h4 := cp300 h3 (by omega)
        have h5 : Int.natAbs ((V : Int) * 2 ^ 31) = V * 2147483648 := by omega
        rw [h5]
        exact h4
      · rw [show ((V * 2147483648 : Nat) : Int) = (V : Int) * 2 ^ 31 by omega]
        exact f1
theorem st_word (σ : CS) (ρ : RS) (hR : Rel σ ρ) (a1 : Int32) : wpX4_word a1 σ (fun r σ1 => wpX5_word a1 ρ (fun r1 ρ1 => r = r1 ∧ Rel σ1 ρ1)) := by
  have hR' := hR
  obtain ⟨c, h, hC, hF, hH⟩ := hR
  show wpX4_word_0 a1 _ σ
  unfold wpX4_word_0 wpX4_word_27
  rcases h with _ | ⟨p, i, n, s, w⟩
  · have k1 : cK σ 1 = -1 := hC.2.2
    have k2 : rK ρ 0 = -1 := hF.2
    rw [k1]
    refine isC4_f1 (Or.inl (by decide)) ⟨fun _ => ?_, fun h1 => absurd rfl h1⟩
    show wpX5_word_0 a1 _ ρ
    unfold wpX5_word_0 wpX5_word_21
    exact ⟨fun _ => ⟨rfl, hR'⟩, fun h1 => absurd k2 h1⟩
  · obtain ⟨k1, k2, k3, k4, k5⟩ := hC.2.2
    obtain ⟨j1, j2, j3, j4, j5⟩ := hF.2
    obtain ⟨hp, hi, hn, hs, hwl, hcv, hcs⟩ := hH
    rw [k1, k2]
    have hnm1 : ¬ nI p = (-1 : Int32) := nI_m1 (by omega)
    refine isC4_t hp hi ⟨fun h1 => absurd h1 (by decide), fun _ => ⟨fun h2 => ?_, fun h2 => ?_⟩⟩
    · show wpX5_word_0 a1 _ ρ
      unfold wpX5_word_0 wpX5_word_21
      rw [j1]
      exact ⟨fun h3 => absurd h3 hnm1, fun _ => ⟨fun _ => ⟨rfl, hR'⟩, fun h3 => absurd h2 h3⟩⟩
    · obtain ⟨v, hv, rfl⟩ := nI_of h2
      rw [k4, k1, k2, k3]
      refine pk_lt n 6 (fun h3 => ⟨pk_in p _ hp, ?_⟩) (fun h3 => ?_) rfl rfl (by omega) (by omega)
      · rw [nI_clamp (by omega), nI_clamp (by omega), tl8 hp]
        refine ⟨pk_in i _ hi, ?_⟩
        have hcap : capW (16 * p + i) = 6 := by unfold capW; rw [if_pos (by omega)]
        -- the new number
        have hwl' : ∀ k, k < n + 1 → (if k = n then v else w k) < 2147483648 := fun k hk => by
          by_cases e : k = n
          · rw [if_pos e]; omega
          · rw [if_neg e]; exact hwl k (by omega)
        have hmg : mg (fun k => if k = n then v else w k) (n + 1) = mg w n + v * 2147483648 ^ n := by
          rw [mg_s, mg_congr (b := w) (fun k hk => if_neg (by omega)), if_pos rfl]
        have hmlt := mg_ltn hwl
        have hmlt2 : mg w n + v * 2147483648 ^ n < 2147483648 ^ 6 := by
          rw [← hmg]
          exact Nat.lt_of_lt_of_le (mg_ltn hwl') (Nat.pow_le_pow_right (by omega) (by omega))
        obtain ⟨y, hy1, hy2, hy3⟩ : ∃ y : Int, y.natAbs = mg w n + v * 2147483648 ^ n ∧ (y ≠ 0 → sg32 y = s) ∧ (v = 0 → y = c p i) := by
          rcases Nat.eq_zero_or_pos v with e | e
          · subst e
            exact ⟨c p i, by omega, hcs, fun _ => rfl⟩
          · have hP : 0 < v * 2147483648 ^ n := Nat.mul_pos e (Nat.pow_pos (by omega))
            rcases hs with e2 | e2
            · exact ⟨((mg w n + v * 2147483648 ^ n : Nat) : Int), by omega, fun _ => by rw [e2]; exact sg32_pos (by omega), fun h => absurd h (by omega)⟩
            · exact ⟨-((mg w n + v * 2147483648 ^ n : Nat) : Int), by omega, fun _ => by rw [e2]; exact sg32_lt (by omega), fun h => absurd h (by omega)⟩
        have hPp := hC.1 p hp
        have hPi := hPp.1 i (by rw [tl8 hp]; exact hi)
        have h9 : ∀ k, 9 ≤ k → pu (c p) i y k = 0 := fun k hk => by rw [pu_n (by omega)]; exact hPp.i9 k hk
        -- after the put
        have after : ∀ σ6, RpW σ6 (16 * p + i) y → Ch σ σ6 (fun z => z = 16 * p + i) → (∀ k, k < n + 1 → cF σ6 (16 * p + i) k = nI (if k = n then v else w k)) →
            vp_in (cK σ6 1) 8 ∧ wpX2_measure ((cK σ6 1).toNatClampNeg) σ6 (fun (σ9 : CS) => wpX5_word (nI v) ρ (fun r1 ρ1 => (1 : Int32) = r1 ∧ Rel (sK σ9 4 ((cK σ9 4) + (1 : Int32))) ρ1)) := by
          intro σ6 f1 f2 f3
          rw [f2.k 1, k1, nI_clamp (by omega)]
          refine ⟨pk_in p _ hp, sp_measure (c := pu (c p) i y) (by omega) (fun k hk => ?_) (fun k hk => h9 k (by rw [tl8 hp] at hk; exact hk)) (fun σ9 f4 f5 => ?_)⟩
          · by_cases e : k = i
            · rw [e, pu_e]
              exact f1
            · rw [pu_n e]
              exact (hPp.1 k hk).ch f2 (by omega)
          have hfr : Cg σ σ9 (inP p) (fun z => z = p) := ((f2.p (by omega)).mono (fun _ z => z) (fun _ z => z.elim)).trans (f5.mono (fun _ z => z.elim) (fun _ z => z))
          -- the reference
          show wpX5_word_0 (nI v) _ ρ
          unfold wpX5_word_0
          rw [j1, j4]
          have hn6 : ¬ nI n = (6 : Int32) := fun h => absurd ((nI_eq (a := n) (b := 6) (by omega) (by omega)).mp h) (by omega)
          refine ⟨fun h => absurd h hnm1, fun _ => ⟨fun h => absurd h h2, fun _ => ⟨fun _ => ⟨pk_in n _ (by omega), ?_⟩, fun h => absurd h hn6⟩⟩⟩
          have hk3 : rK (wH ρ (nI n) (nI v)) 3 = nI n := j4
          rw [hk3, nI_1]
          have hk0 : rK (wK (wH ρ (nI n) (nI v)) 3 (nI (n + 1))) 0 = nI p := by rw [rK_wK, if_neg (by omega)]; exact j1
          have hk1 : rK (wK (wH ρ (nI n) (nI v)) 3 (nI (n + 1))) 1 = nI i := by rw [rK_wK, if_neg (by omega)]; exact j2
          have hk2 : rK (wK (wH ρ (nI n) (nI v)) 3 (nI (n + 1))) 2 = s := by rw [rK_wK, if_neg (by omega)]; exact j3
          have hk33 : rK (wK (wH ρ (nI n) (nI v)) 3 (nI (n + 1))) 3 = nI (n + 1) := by rw [rK_wK, if_pos rfl]
          have hhw : ∀ k, k < n + 1 → rH (wK (wH ρ (nI n) (nI v)) 3 (nI (n + 1))) k = nI (if k = n then v else w k) := fun k hk => by
            rw [rH_wK, rH_wH (by omega)]
            by_cases e : k = n
            · rw [if_pos e, if_pos e]
            · rw [if_neg e, if_neg e]
              exact j5 k (by omega)
          have hPR : ∀ q, q < 8 → PR (wK (wH ρ (nI n) (nI v)) 3 (nI (n + 1))) q (c q) := fun q hq => hF.1 q hq
          generalize hρ2 : wK (wH ρ (nI n) (nI v)) 3 (nI (n + 1)) = ρ2 at *
          rw [hk0, hk1, at_eq, ia]
          refine sp_rzero (by omega) (fun ρ3 g1 g2 a14 ha14 => ?_)
          have hK3 : ∀ j, rK ρ3 j = rK ρ2 j := fun j => by unfold rK; rw [g2.2]
          have hH3 : ∀ j, rH ρ3 j = rH ρ2 j := fun j => by unfold rH; rw [g2.2]
          rw [hK3, hk33] at ha14
          refine sp_rword (y := y) (w := fun k => if k = n then v else w k) (by omega) (by omega) g1 (fun k hk => ⟨hwl' k hk, by rw [hH3]; exact hhw k hk⟩) (by rw [hmg]; exact hy1) (fun hy0 => by rw [hK3, hk2]; exact (hy2 hy0).symm) (fun ρ4 g3 g4 => ?_) ha14
          unfold wpX5_word_140
          have g5 : Cr ρ2 ρ4 (fun z => z = 9 * p + i ∨ tmR z) := (g2.mono (fun z hz => Or.inl hz)).trans g4
          have hK4 : ∀ j, rK ρ4 j = rK ρ2 j := fun j => by unfold rK; rw [g5.2]
          have hH4 : ∀ j, rH ρ4 j = rH ρ2 j := fun j => by unfold rH; rw [g5.2]
          rw [hK4, hk0]
          refine sp_rmeasure (c := pu (c p) i y) (by omega) (fun k hk => ?_) h9 (fun ρ5 g6 g7 => ?_)
          · by_cases e : k = i
            · rw [e, pu_e]
              exact g3
            · rw [pu_n e]
              exact ((hPR p hp).1 k hk).cr g5 (by unfold tmR; omega)
          have hfq : Cq ρ2 ρ5 (fun n => inR p n ∨ tmR n) (fun z => z = p) := ((g5.cq (fun z => z = p)).mono (fun m hm => by unfold inR; unfold tmR at hm ⊢; omega) (fun _ z => z)).trans (g7.mono (fun _ z => z.elim) (fun _ z => z))
          have hkk : ∀ k, k ≠ 4 → cK (sK σ9 4 ((cK σ9 4) + 1)) k = cK σ k := fun k hk => by rw [cK_s, if_neg hk]; exact hfr.2.2 k
          refine ⟨rfl, setC c p (pu (c p) i y), some (p, i, n + 1, s, fun k => if k = n then v else w k), ⟨fun q hq => Pl.sK (pl_setC hC.1 f4 hfr q hq), bd_setC hC.2.1 (fun k => ?_), ?_⟩, ⟨pr_setC hPR g6 hfq, ?_⟩, ⟨hp, hi, by omega, hs, hwl', ?_, ?_⟩⟩
          · by_cases e : k = i
            · rw [e, pu_e, hy1]
              exact hmlt2
            · rw [pu_n e]
              exact hC.2.1 p hp k
          · refine ⟨by rw [hkk _ (by omega)]; exact k1, by rw [hkk _ (by omega)]; exact k2, by rw [hkk _ (by omega)]; exact k3, ?_, fun k hk => ?_⟩
            · rw [cK_s, if_pos rfl, hfr.2.2 4, k4, nI_1]
            · show cF σ9 (16 * p + i) k = _
              rw [(f5.1 (16 * p + i) (fun z => z)).1]
              exact f3 k hk
          · have hk5 : ∀ j, rK ρ5 j = rK ρ2 j := fun j => by rw [hfq.2.2.2]
            refine ⟨by rw [hk5]; exact hk0, by rw [hk5]; exact hk1, by rw [hk5]; exact hk2, by rw [hk5]; exact hk33, fun k hk => ?_⟩
            rw [hfq.2.2.1]
            exact hhw k hk
          · rw [setC_e, pu_e, hmg]
            exact hy1
          · rw [setC_e, pu_e]
            exact hy2
        show wpX3_put_0 (16 * p + i) (nI n) (nI v) s _ σ
        unfold wpX3_put_0
        rw [hcap]
        refine ⟨fun h4 => absurd h4 (nI_pos (by omega)), fun _ => ⟨fun _ => ⟨pk_in n _ (by omega), fun h4 => ?_, fun h4 => ?_⟩, fun h4 => absurd (nI_lt (b := 6) h3 (by omega)) h4⟩⟩
        · have hv0 : v = 0 := (nI_eq (b := 0) (by omega) (by omega)).mp h4
          subst hv0
          have hyc := hy3 rfl
          have hF6 : cF (sFi σ (16 * p + i) (nI n) (nI 0)) (16 * p + i) = upd (cF σ (16 * p + i)) n (nI 0) := by rw [cF_sFi, nI_clamp (by omega)]
          have hf3 : ∀ k, k < n + 1 → cF (sFi σ (16 * p + i) (nI n) (nI 0)) (16 * p + i) k = nI (if k = n then 0 else w k) := fun k hk => by
            rw [hF6]
            by_cases e : k = n
            · rw [if_pos e, e, upd_e]
            · rw [if_neg e, upd_n e]
              exact k5 k (by omega)
          refine after _ ?_ (Ch.sFi _ _ _ _) hf3
          obtain ⟨m, m1, m2, m3, m4, m5, m6⟩ := hPi
          have hmn : m ≤ n := rp_size m3 m4 (by rw [← m5, hcv]; exact hmlt)
          have hsame : ∀ k, k < m → cF (sFi σ (16 * p + i) (nI n) (nI 0)) (16 * p + i) k = cF σ (16 * p + i) k := fun k hk => by
            rw [hF6, upd_n (by omega)]
          rw [hyc]
          exact ⟨m, m1, m2, okd_congr hsame m3, fun h => by rw [hsame _ (by omega)]; exact m4 h, by rw [m5]; exact (mag_congr hsame).symm, m6⟩
        · have hv0 : v ≠ 0 := fun e => h4 (by rw [e]; rfl)
          have hF6 : cF (sG (sS (sFi σ (16 * p + i) (nI n) (nI v)) (16 * p + i) (nI n + 1)) (16 * p + i) s) (16 * p + i) = upd (cF σ (16 * p + i)) n (nI v) := by
            rw [cF_sG, cF_sS, cF_sFi, nI_clamp (by omega)]
          have hf3 : ∀ k, k < n + 1 → cF (sG (sS (sFi σ (16 * p + i) (nI n) (nI v)) (16 * p + i) (nI n + 1)) (16 * p + i) s) (16 * p + i) k = nI (if k = n then v else w k) := fun k hk => by
            rw [hF6]
            by_cases e : k = n
            · rw [if_pos e, e, upd_e]
            · rw [if_neg e, upd_n e]
              exact k5 k (by omega)
          have hP : 0 < v * 2147483648 ^ n := Nat.mul_pos (by omega) (Nat.pow_pos (by omega))
          refine after _ ⟨n + 1, by rw [hcap]; omega, ?_, okd_of (fun k hk => ⟨_, hwl' k hk, hf3 k hk⟩), fun _ => ?_, ?_, ?_⟩ (((Ch.sFi _ _ _ _).trans (Ch.sS _ _ _)).trans (Ch.sG _ _ _)) hf3
          · rw [cS_sG, cS_sS, nI_1]
          · rw [Nat.add_sub_cancel, hf3 n (by omega), if_pos rfl]
            exact h4
          · rw [mag_mg (fun k hk => ⟨hf3 k hk, hwl' k hk⟩), hmg]
            exact hy1
          · rw [cG_sG]
            exact (hy2 (by omega)).symm
      · show wpX5_word_0 (nI v) _ ρ
        unfold wpX5_word_0 wpX5_word_21
        rw [j1, j4]
        have hn6 : n = 6 := by omega
        subst hn6
        exact ⟨fun h => absurd h hnm1, fun _ => ⟨fun h => absurd h h2, fun _ => ⟨fun h => absurd rfl h, fun _ => ⟨rfl, hR'⟩⟩⟩⟩
