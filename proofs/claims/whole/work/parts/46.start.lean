/-! whole_start over the pure step: LawStep Rel, Rel at the start -/
set_option maxRecDepth 100000 in
set_option maxHeartbeats 4000000 in
theorem start_open {Rel : CS → RS → Prop} (hst : LawStep Rel) (hR0 : Rel σ0 ρ0) {p : Program} {e : Env} {s : State} {m : MethodId} {below : List Frame} {meth : Method} {c : Code} (l : Launch) {b L : Nat} {xs : Nat → Int32} (hL : L ≤ 2560) (C0 : lw_At p s m meth c b L xs) : W p l e room_1 s m #[Value.ref b] below meth c s.heap [] 0 0 (lw_Z below #[Value.ref b] s) (entryFrame m ([Value.ref b] : List Value).toArray 4) := by
  obtain ⟨hx, hb, hr, hml, hown, hts0, hX, hbl, hlocks, hgv⟩ := id C0
  have hts : ∀ w ∈ wsA, w.before #[Value.ref b] s = true := fun w h => hts0 w (wsA_in w h)
  obtain ⟨c0, iS0, hKn0⟩ := u_known (C := RX0) (T := TX0) (N := 6) (n := 6) hts inA_X0 (hts (.instantiable RX0 6) (by first | exact mw_42 | exact mw_1))
  obtain ⟨c1, iS1, hKn1⟩ := u_known (C := RX1) (T := TX1) (N := 7) (n := 7) hts inA_X1 (hts (.instantiable RX1 7) (by first | exact mw_17 | exact mw_1))
  obtain ⟨c2, iS2, hKn2⟩ := u_known (C := RX2) (T := TX2) (N := 2) (n := 2) hts inA_X2 (hts (.instantiable RX2 2) (by first | exact mw_14 | exact mw_1))
  obtain ⟨c3, iS3, hKn3⟩ := u_known (C := RX3) (T := TX3) (N := 3) (n := 3) hts inA_X3 (hts (.instantiable RX3 3) (by first | exact mw_28 | exact mw_1))
  obtain ⟨c4, iS4, hKn4⟩ := u_known (C := RX4) (T := TX4) (N := 7) (n := 7) hts inA_X4 (hts (.instantiable RX4 7) (by first | exact mw_1 | exact mw_1))
  obtain ⟨c5, iS5, hKn5⟩ := u_known (C := RX5) (T := TX5) (N := 10) (n := 10) hts inA_X5 (hts (.instantiable RX5 10) (by first | exact mw_4 | exact mw_1))
  obtain ⟨dC, dI, hKc⟩ : ∃ (dC : Nat → ClassId) (dI : Nat → Nat → Nat), ∀ (k : Nat) (q : vw_C), vwCl[k]? = some q → u_Kn s q.1 q.2.1 q.2.2 (dC k) (dI k) := by
    refine ⟨fun k => [c0, c1, c2, c3, c4, c5].getD k c0, fun k => [iS0, iS1, iS2, iS3, iS4, iS5].getD k iS0, ?_⟩
    intro k q hq
    match k, hq with
    | 0, hq => cases hq; exact hKn0
    | 1, hq => cases hq; exact hKn1
    | 2, hq => cases hq; exact hKn2
    | 3, hq => cases hq; exact hKn3
    | 4, hq => cases hq; exact hKn4
    | 5, hq => cases hq; exact hKn5
    | k + 6, hq => simp at hq
  obtain ⟨cI, kI, pI, i1, i2, i3⟩ := Cond.arrayClass_spec (hts _ mw_35)
  obtain ⟨cJ, kJ, pJ, j1, j2, j3⟩ := Cond.arrayClass_spec (hts _ mw_76)
  have hO3 : (Cond.arrayOver (.object RX3)).before #[Value.ref b] s = true := hts0 _ (by decide +kernel)
  have hO2 : (Cond.arrayOver (.object RX2)).before #[Value.ref b] s = true := hts0 _ (by decide +kernel)
  obtain ⟨pW, cW, kW, w0, -, w2, w3, w4⟩ := Cond.arrayOver_spec hO3
  obtain ⟨pP, cP, kP, p0, -, p2, p3, p4⟩ := Cond.arrayOver_spec hO2
  obtain ⟨z, hz⟩ : ∃ z, s.heap.size = z := ⟨_, rfl⟩
  obtain ⟨g, hge⟩ : ∃ g, g = gZ z (cI, cJ, cW, cP) := ⟨_, rfl⟩
  have hK : va_K (dC, dI) vwCl (tyG g) s := by
    refine ⟨hKc, ?_⟩
    rw [hge]
    intro k q hq
    match k, hq with
    | 0, hq => cases hq; exact ⟨fun N z => ⟨fun k h => (by cases h), kI, i2, pI, i3⟩, i1⟩
    | 1, hq => cases hq; exact ⟨fun N z => ⟨fun k h => (by cases h), kJ, j2, pJ, j3⟩, j1⟩
    | 2, hq => cases hq; exact ⟨fun N z => ⟨fun k h => (by cases h), kW, w2, pW, w3⟩, kW, pW, w2, w3, w0, w4⟩
    | 3, hq => cases hq; exact ⟨fun N z => ⟨fun k h => (by cases h), kP, p2, pP, p3⟩, kP, pP, p2, p3, p0, p4⟩
    | k + 4, hq => simp [tyG] at hq
  have hkn : kn (dC, dI) (tyG g) s := ⟨hK, fun w hw => va_Nw.of (nestW_tab w hw) (hts0 w (nestW_in w hw))⟩
  have X : cx p m meth c s #[Value.ref b] cL_law 4 RL (dC, dI) (tyG g) := ⟨hx, hb, hml, hown, hts, hkn, hlocks⟩
  have hk2 : kn2 (dC, dI) g s := ⟨hkn, va_AO.of hO3, va_AO.of hO2⟩
  have hS : va_S (fun q : Nat => s.heap.size ≤ q) s.heap s.heap [] := va_S.rf
  have hw : hs (dC, dI) (fun _ => False) s.heap := fun q h => h.elim
  have hl := lv_entry ([.ref b]) (n := 4) (Nat.le_of_ble_eq_true rfl)
  rw [lg_entry_eq]
  generalize (lg_sl ([.ref b]) ++ List.replicate (4 - (lg_sl ([.ref b])).length) Slot.unset).toArray = ls at hl ⊢
  have hl : lv_has ls 4 [(0, .ref b)] := hl
  refine n_new (ci := 4) (fs := [.null, .null, .null, .int 0, .int 0, .int 0, .int 0]) (T' := fun q => q = (z, .inr (4, [.null, .null, .null, .int 0, .int 0, .int 0, .int 0]))) X hz hw hS rfl inA_X4 tyX4 tyX4_ok mw_0 mw_1 mw_2 (fun j hj => by rcases (show j = 0 ∨ j = 1 ∨ j = 2 ∨ j = 3 ∨ j = 4 ∨ j = 5 ∨ j = 6 by omega) with rfl | rfl | rfl | rfl | rfl | rfl | rfl <;> rfl) (Nat.le_of_ble_eq_true rfl) (Nat.le_of_ble_eq_true rfl) (fun q h => Or.inl h) dL_law_0 (fun H hw hz1 hS => ?_)
  refine W.widen (k := 1) (n := 7) (Nat.le_of_ble_eq_true rfl) (Nat.le_of_ble_eq_true rfl) ?_
  refine lv_dup hx hb dL_law_3 rfl ?_
  refine n_callI (n := 0) (T' := gT g z (z + 1)) (As := []) (rest := [.ref z]) X hk2 hl.1 hz1 hw hS (by show s.heap.size ≤ z; omega) (fun q hq => by show s.heap.size ≤ q; omega) (kX4_init (b := z) (z := z + 1) (Nat.lt_succ_self _)) (fun q h => h) mw_6 mw_7 mw_2 mw_8 rfl (by decide +kernel) rfl rfl ⟨Nat.le_of_ble_eq_true rfl, Nat.le_of_ble_eq_true rfl⟩ ⟨Nat.le_of_ble_eq_true rfl, Nat.le_of_ble_eq_true rfl⟩ rfl rfl (Nat.le_of_ble_eq_true rfl) (fun q h => Or.inl h) dL_law_4 (fun H locs hw hz1 hS => ?_)
  refine W.widen (k := 349) (n := 11750) (Nat.le_of_ble_eq_true rfl) (Nat.le_of_ble_eq_true rfl) ?_
  replace hz1 : H.size = z + 349 := hz1
  refine lv_astore_n (lv' := [(1, .ref z), (0, .ref b)]) hx hb dL_law_7 rfl hl (by decide) rfl (fun ls hl => ?_)
  refine n_new (ci := 5) (fs := [.null, .null, .null, .null, .int 0, .int 0, .int 0, .int 0, .null, .int 0]) (T' := fun q => q = (z + 349, .inr (5, [.null, .null, .null, .null, .int 0, .int 0, .int 0, .int 0, .null, .int 0])) ∨ gT g z (z + 1) q) X hz1 hw hS rfl inA_X5 tyX5 tyX5_ok mw_3 mw_4 mw_5 (fun j hj => by rcases (show j = 0 ∨ j = 1 ∨ j = 2 ∨ j = 3 ∨ j = 4 ∨ j = 5 ∨ j = 6 ∨ j = 7 ∨ j = 8 ∨ j = 9 by omega) with rfl | rfl | rfl | rfl | rfl | rfl | rfl | rfl | rfl | rfl <;> rfl) (Nat.le_of_ble_eq_true rfl) (Nat.le_of_ble_eq_true rfl) (fun q h => h) dL_law_8 (fun H hw hz1 hS => ?_)
  refine W.widen (k := 350) (n := 11760) (Nat.le_of_ble_eq_true rfl) (Nat.le_of_ble_eq_true rfl) ?_
  refine lv_dup hx hb dL_law_11 rfl ?_
  refine n_callI (n := 0) (T' := fun q => mT g (z + 349) (z + 350) q ∨ gT g z (z + 1) q) (As := []) (rest := [.ref (z + 349)]) X hk2 hl.1 hz1 hw hS (by show s.heap.size ≤ z + 349; omega) (fun q hq => by show s.heap.size ≤ q; omega) (kX5_init (b := z + 349) (z := z + 350) (Nat.lt_succ_self _)) (fun q h => Or.inl h) mw_71 mw_72 mw_5 mw_73 rfl (by decide +kernel) rfl rfl ⟨Nat.le_of_ble_eq_true rfl, Nat.le_of_ble_eq_true rfl⟩ ⟨Nat.le_of_ble_eq_true rfl, Nat.le_of_ble_eq_true rfl⟩ rfl rfl (Nat.le_of_ble_eq_true rfl) (fun q h => h.elim Or.inl (fun h => Or.inr ⟨Or.inr h, by have h9 := gT_in h; omega⟩)) dL_law_12 (fun H locs hw hz1 hS => ?_)
  refine W.widen (k := 600000) (n := 7302250) (Nat.le_of_ble_eq_true rfl) (Nat.le_of_ble_eq_true rfl) ?_
  refine lv_astore_n (lv' := [(2, .ref (z + 349)), (1, .ref z), (0, .ref b)]) hx hb dL_law_15 rfl hl (by decide) rfl (fun ls hl => ?_)
  refine lv_iconst (v := 0) hx hb dL_law_16 (by decide) ?_
  refine lv_istore_n (lv' := [(3, .int 0), (2, .ref (z + 349)), (1, .ref z), (0, .ref b)]) hx hb dL_law_17 rfl hl (by decide) rfl (fun ls hl => ?_)
  have hwc : wd (dC, dI) (fun q => ∃ k, okC k ∧ q = g.1 k) (cT g σ0) H := by
    subst hge
    exact wd_of 2011 (fun k hk => by
      rcases hk with ⟨h1, h2⟩ | ⟨h1, h2⟩ | ⟨h1, h2⟩ | ⟨h1, h2⟩ | rfl | rfl | rfl | rfl | rfl
      · have := h2.1; omega
      · have := h2.1; omega
      · omega
      · omega
      · decide
      · decide
      · decide
      · decide
      · decide) (init_C (fun q h => hw q (Or.inr h)))
  have hwr : wd (dC, dI) (fun q => ∃ k, okR k ∧ q = g.1 k) (rT g ρ0) H := by
    subst hge
    exact wd_of 5006 (fun k hk => by have := hk.2; omega) (init_R (fun q h => hw q (Or.inl h)))
  have hg1 : ∀ k, g.1 k = z + off k := by intro k; rw [hge]; rfl
  refine law_loop (by rw [hge]; exact gZ_inj _ _) hL (Ac := fun q => ∃ k, okC k ∧ q = g.1 k) (Ar := fun q => ∃ k, okR k ∧ q = g.1 k) ?_ ?_ ?_ X hr hX hbl hst (L + 6) 0 σ0 ρ0 H locs ls (by omega) (by omega) hR0 hwc hwr hS ?_
  · rintro q ⟨k, -, rfl⟩
    rw [hg1]
    omega
  · rintro q ⟨k, -, rfl⟩
    rw [hg1]
    omega
  · rintro q ⟨k, hk, rfl⟩ ⟨j, hj, e⟩
    have e2 : k = j := by rw [hge] at e; exact gZ_inj _ _ _ _ e
    subst e2
    obtain ⟨h1, h2⟩ := hj
    rcases hk with ⟨h3, h4⟩ | ⟨h3, h4⟩ | ⟨h3, h4⟩ | ⟨h3, h4⟩ | h3 | h3 | h3 | h3 | h3
    · have := h4.1; omega
    · have := h4.1; omega
    · omega
    · omega
    · omega
    · omega
    · omega
    · omega
    · omega
  · have e1 : g.1 2010 = z := by rw [hg1]; rfl
    have e2 : g.1 5000 = z + 349 := by rw [hg1]; rfl
    rw [e1, e2, nI_0]
    exact lv_sub hl [3, 2, 1, 0] rfl
