/-! the constructors of Whole and Poly -/
def wT (g : mG) (b z r : Nat) : Nat × va_E → Prop := fun q => q = (b, .inr (3, [.ref z, .int 0, .int 0])) ∨ q = (z, .inl (g.2.1, r, .inl (fun _ => 0)))
theorem wT_in {g : mG} {b z r : Nat} {q : Nat × va_E} (h : wT g b z r q) : q.1 = b ∨ q.1 = z := by
  rcases h with rfl | rfl
  · exact Or.inl rfl
  · exact Or.inr rfl
abbrev rm3 (r : Nat) : Room := { frames := 1, cells := 1, slots := r, locals := 12 }
set_option maxRecDepth 100000 in
set_option maxHeartbeats 4000000 in
theorem kX3_init {l : Launch} {D : va_G} {g : mG} {b z r : Nat} (hbz : b < z) (hr31 : r < 1000) : Met l yX3_init (Cond.code yX3_init cX3_init 2 none :: wsA) (rm3 r) (nPc D g z (fun q => q = (b, .inr (3, [.null, .int 0, .int 0]))) [.ref b, .int (nI r)]) (nQc D b z (z + 1) (wT g b z r)) 1 r (fA b z) := by
  refine n_met (by decide +kernel) rfl (Nat.le_of_ble_eq_true rfl) ?_
  intro p e s m below meth c Y hk2 hin hr hz hw ls hl
  have hx := Y.1
  have hb := Y.2.1
  have hS : va_S (fA b z) s.heap s.heap [] := va_S.rf
  refine lv_aload_n hx hb dX3_init_0 rfl (lv_at hl 0 rfl) ?_
  refine n_obj Y hl.1 mw_34 (Nat.le_of_ble_eq_true rfl) (Nat.le_of_ble_eq_true rfl) (Nat.le_of_ble_eq_true rfl) dX3_init_1 ?_
  refine lv_aload_n hx hb dX3_init_4 rfl (lv_at hl 0 rfl) ?_
  refine lv_iload_n hx hb dX3_init_5 rfl (lv_at hl 1 rfl) ?_
  refine n_newa (T' := fun q => q = (z, .inl (g.2.1, r, .inl (fun _ => 0))) ∨ q = (b, .inr (3, [.null, .int 0, .int 0]))) Y hz hw hS (ty := .int) rfl mw_35 0 rfl (fun h => h) (fun _ => rfl) (nI_pos (by omega)) (nI_clamp (by omega)) (by show r * 4 ≤ _; omega) (Nat.le_of_ble_eq_true rfl) (by show 0 + r ≤ r; omega) (fun q h => h) dX3_init_6 (fun H hw hz hS => ?_)
  refine n_putF (T' := wT g b z r) Y hin hw hS (Or.inl rfl) (Or.inr rfl) rfl inA_X3 tyX3 tyX3_ok nmX3 0 (by decide) mw_36 rfl rfl rfl rfl (Nat.le_of_ble_eq_true rfl) ?_ dX3_init_8 (fun H locs hw hz2 hS => ?_)
  · rintro q (rfl | rfl)
    · exact Or.inl rfl
    · exact Or.inr ⟨Or.inl rfl, by show z ≠ b; omega⟩
  refine W.widen (k := 1) (n := r) (by omega) (by omega) ?_
  exact n_vret Y hr hw (hz2.trans hz) hS dX3_init_11
def pT (g : mG) (b z t r : Nat) : Nat × va_E → Prop := fun q => q = (b, .inr (2, [.ref z, .int (-1)])) ∨ q = (z, .inl (g.2.2.2.1, t + 1, .inr (.inr (.inr (.inr (fun j => some (z + 1 + 2 * j))))))) ∨ ∃ j, j ≤ t ∧ wT g (z + 1 + 2 * j) (z + 2 + 2 * j) r q
theorem pT_in {g : mG} {b z t r : Nat} {q : Nat × va_E} (h : pT g b z t r q) : q.1 = b ∨ (z ≤ q.1 ∧ q.1 < z + 1 + 2 * (t + 1)) := by
  rcases h with rfl | rfl | ⟨j, hj, h⟩
  · exact Or.inl rfl
  · exact Or.inr ⟨Nat.le_refl _, by show z < _; omega⟩
  · rcases wT_in h with e | e
    · right; omega
    · right; omega
def pTi (g : mG) (b z t r i : Nat) (f : Nat → Option Nat) : Nat × va_E → Prop := fun q => q = (b, .inr (2, [.ref z, .int 0])) ∨ q = (z, .inl (g.2.2.2.1, t + 1, .inr (.inr (.inr (.inr f))))) ∨ ∃ j, j < i ∧ wT g (z + 1 + 2 * j) (z + 2 + 2 * j) r q
theorem pTi_in {g : mG} {b z t r i : Nat} {f : Nat → Option Nat} {q : Nat × va_E} (h : pTi g b z t r i f q) : q.1 = b ∨ (z ≤ q.1 ∧ q.1 < z + 1 + 2 * i) := by
  rcases h with rfl | rfl | ⟨j, hj, h⟩
  · exact Or.inl rfl
  · exact Or.inr ⟨Nat.le_refl _, by show z < _; omega⟩
  · rcases wT_in h with e | e
    · right; omega
    · right; omega
theorem pTi_f {D : va_G} {g : mG} {b z t r i : Nat} {f f' : Nat → Option Nat} {H : Heap} (hf : ∀ j, j < t + 1 → f j = f' j) (h : hs D (pTi g b z t r i f) H) : hs D (pTi g b z t r i f') H := by
  rintro q (rfl | rfl | ⟨j, hj, h1⟩)
  · exact h _ (Or.inl rfl)
  · have h2 := h _ (Or.inr (Or.inl rfl))
    show H[z]? = some (vp_cell _ _)
    rw [vp_cell_q, ← arr_congr (f := fun j => va_rf (f j)) (fun j hj => by rw [hf j hj])]
    exact h2
  · exact h _ (Or.inr (Or.inr ⟨j, hj, h1⟩))
abbrev pF (z i : Nat) : Nat → Option Nat := fun j => if j < i then some (z + 1 + 2 * j) else none
theorem pF_up (z i : Nat) : va_up (pF z i) i (some (z + 1 + 2 * i)) = pF z (i + 1) := by
  funext j
  unfold va_up pF
  by_cases h : j = i
  · subst h
    simp
  · rw [if_neg h]
    by_cases h2 : j < i
    · rw [if_pos h2, if_pos (by omega)]
    · rw [if_neg h2, if_neg (by omega)]
abbrev rm2 (t r : Nat) : Room := { frames := 2, cells := 1 + 2 * (t + 1), slots := (t + 1) + (t + 1) * (3 + r), locals := 33 }
set_option maxRecDepth 100000 in
set_option maxHeartbeats 4000000 in
theorem lX2_init {p : Program} {l : Launch} {e : Env} {s : State} {m : MethodId} {args : Array Value} {below : List Frame} {meth : Method} {c : Code} {D : va_G} {g : mG} {b z t r : Nat} (hbz : b < z) (ht : t ≤ 8) (hr31 : r < 1000) (Y : cx p m meth c s args cX2_init 4 RX2 D (tyG g)) (hk2 : kn2 D g s) (hr : meth.sig.returnType = none) (hz0 : s.heap.size = z) : ∀ (n i : Nat) (H : Heap) (locs : List Loc) (ls : Array Slot), i ≤ t + 1 → t + 2 ≤ i + n → H.size = z + 1 + 2 * i → hs D (pTi g b z t r i (pF z i)) H → va_S (fA b z) s.heap H locs → lv_has ls 4 [(0, .ref b), (1, .int (nI t)), (2, .int (nI r)), (3, .int (nI i))] →
    W p l e (rm2 t r) s m args below meth c H locs (1 + 2 * i) ((t + 1) + i * (3 + r)) (MQ below (nQc D b z (z + 1 + 2 * (t + 1)) (pT g b z t r)) args s (1 + 2 * (t + 1)) ((t + 1) + (t + 1) * (3 + r)) (fA b z)) (F0 m 16 ls []) := by
  have hx := Y.1
  have hb := Y.2.1
  intro n
  induction n with
  | zero => intro i H locs ls h1 h2; exact absurd h2 (by omega)
  | succ n ih =>
    intro i H locs ls hi hn hz hw hS hl
    refine lv_iload_n hx hb dX2_init_16 rfl (lv_at hl 3 rfl) ?_
    refine lv_iload_n hx hb dX2_init_17 rfl (lv_at hl 1 rfl) ?_
    refine lv_icmp_gt (tgt := 41) hx hb dX2_init_18 (by decide) (fun hc => ?_) (fun hc => ?_)
    · have hit : i = t + 1 := by
        have h1 := (nI_ltI (a := t) (b := i) (by omega) (by omega)).mp hc
        omega
      subst hit
      replace hw := pTi_f (f' := fun j => some (z + 1 + 2 * j)) (fun j hj => by simp [pF, hj]) hw
      refine lv_aload_n hx hb dX2_init_41 rfl (lv_at hl 0 rfl) ?_
      refine lv_iconst (v := -1) hx hb dX2_init_42 (by decide) ?_
      refine n_put (T' := pT g b z t r) Y hw hS (Or.inl rfl) (Or.inl rfl) rfl inA_X2 tyX2 tyX2_ok nmX2 1 (by decide) mw_30 rfl rfl rfl (Nat.le_of_ble_eq_true rfl) ?_ dX2_init_43 (fun H locs hw hz2 hS => ?_)
      · rintro q (rfl | rfl | ⟨j, hj, h⟩)
        · exact Or.inl rfl
        · exact Or.inr ⟨Or.inr (Or.inl rfl), by show z ≠ b; omega⟩
        · refine Or.inr ⟨Or.inr (Or.inr ⟨j, by omega, h⟩), ?_⟩
          rcases wT_in h with e | e <;> omega
      exact n_vret Y hr hw (hz2.trans hz) hS dX2_init_46
    · have hit : i ≤ t := by
        rcases Nat.lt_or_ge t i with h | h
        · exact absurd ((nI_ltI (by omega) (by omega)).mpr h) hc
        · exact h
      have hmul : (i + 1) * (3 + r) ≤ (t + 1) * (3 + r) := Nat.mul_le_mul_right _ (by omega)
      have hsm : (i + 1) * (3 + r) = i * (3 + r) + (3 + r) := Nat.succ_mul _ _
      refine lv_aload_n hx hb dX2_init_21 rfl (lv_at hl 0 rfl) ?_
      refine n_get (v := .ref z) Y hw (Or.inl rfl) rfl inA_X2 0 (by decide) mw_27 rfl dX2_init_22 ?_
      refine lv_iload_n hx hb dX2_init_25 rfl (lv_at hl 3 rfl) ?_
      refine n_new (T' := fun q => q = (z + 1 + 2 * i, .inr (3, [.null, .int 0, .int 0])) ∨ pTi g b z t r i (pF z i) q) Y hz hw hS rfl inA_X3 tyX3 tyX3_ok mw_26 mw_28 mw_29 (fun j hj => by rcases (show j = 0 ∨ j = 1 ∨ j = 2 by omega) with rfl | rfl | rfl <;> rfl) (by show 1 + 2 * i + 1 ≤ 1 + 2 * (t + 1); omega) (by show (t + 1) + i * (3 + r) + 3 ≤ (t + 1) + (t + 1) * (3 + r); omega) (fun q h => h) dX2_init_26 (fun H hw hz hS => ?_)
      refine lv_dup hx hb dX2_init_29 rfl ?_
      refine lv_iload_n hx hb dX2_init_30 rfl (lv_at hl 2 rfl) ?_
      refine n_callI (n := 1) (T' := fun q => wT g (z + 1 + 2 * i) (z + 2 + 2 * i) r q ∨ pTi g b z t r i (pF z i) q) (As := [.int (nI r)]) (rest := [.ref (z + 1 + 2 * i), .int (nI i), .ref z]) Y hk2 hl.1 hz hw hS (Or.inr (by omega)) (fun q hq => Or.inr (by omega)) (kX3_init (b := z + 1 + 2 * i) (z := z + 1 + 2 * i + 1) (r := r) (by omega) hr31) (fun q h => Or.inl h) mw_31 mw_32 mw_29 mw_33 rfl (by decide +kernel) rfl rfl ⟨Nat.le_of_ble_eq_true rfl, Nat.le_of_ble_eq_true rfl⟩ ⟨by show 1 + 2 * i + 1 + 1 ≤ 1 + 2 * (t + 1); omega, by show (t + 1) + i * (3 + r) + 3 + r ≤ (t + 1) + (t + 1) * (3 + r); omega⟩ rfl rfl (Nat.le_of_ble_eq_true rfl) ?_ dX2_init_31 (fun H locs hw hz hS => ?_)
      · rintro q (h | h)
        · refine Or.inl ?_
          rw [show z + 1 + 2 * i + 1 = z + 2 + 2 * i by omega]
          exact h
        · refine Or.inr ⟨Or.inr h, ?_⟩
          have h1 := pTi_in h
          omega
      refine n_aast (T' := pTi g b z t r (i + 1) (pF z (i + 1))) (r := (RX3, TX3, 3)) Y hw hS (Or.inr (Nat.le_refl z)) (Or.inr (Or.inr (Or.inl rfl))) 2 rfl (Or.inl (Or.inl rfl)) rfl (vp_in_nI (by omega) (by omega)) ?_ dX2_init_34 (fun H locs hw hz2 hS => ?_)
      · rw [nI_clamp (by omega), pF_up]
        rintro q (rfl | rfl | ⟨j, hj, h⟩)
        · exact Or.inr ⟨Or.inr (Or.inl rfl), by show b ≠ z; omega⟩
        · exact Or.inl rfl
        · rcases Nat.lt_or_ge j i with h2 | h2
          · refine Or.inr ⟨Or.inr (Or.inr (Or.inr ⟨j, h2, h⟩)), ?_⟩
            rcases wT_in h with e | e <;> omega
          · have h3 : j = i := by omega
            subst h3
            refine Or.inr ⟨Or.inl h, ?_⟩
            rcases wT_in h with e | e <;> omega
      obtain ⟨i4, ei4⟩ : ∃ w : Int32, w = nI i + 1 := ⟨_, rfl⟩
      refine lv_iinc (v := i4) (lv' := [(3, .int i4), (0, .ref b), (1, .int (nI t)), (2, .int (nI r))]) hx hb dX2_init_35 hl (k := 3) rfl (by rw [ei4]; rfl) (by decide) rfl (fun ls hl => ?_)
      refine lv_goto (tgt := 16) hx hb dX2_init_38 (by decide) ?_
      refine W.widen (k := 1 + 2 * (i + 1)) (n := (t + 1) + (i + 1) * (3 + r)) (by omega) (by omega) ?_
      exact ih (i + 1) H locs ls (by omega) (by omega) (by rw [hz2, hz]; omega) hw hS (by rw [show nI (i + 1) = i4 by rw [ei4]; exact (nI_1 i).symm]; exact lv_sub hl [1, 2, 3, 0] rfl)
set_option maxRecDepth 100000 in
set_option maxHeartbeats 4000000 in
theorem kX2_init {l : Launch} {D : va_G} {g : mG} {b z t r : Nat} (hbz : b < z) (ht : t ≤ 8) (hr31 : r < 1000) : Met l yX2_init (Cond.code yX2_init cX2_init 4 none :: wsA) (rm2 t r) (nPc D g z (fun q => q = (b, .inr (2, [.null, .int 0]))) [.ref b, .int (nI t), .int (nI r)]) (nQc D b z (z + 1 + 2 * (t + 1)) (pT g b z t r)) (1 + 2 * (t + 1)) ((t + 1) + (t + 1) * (3 + r)) (fA b z) := by
  refine n_met (by decide +kernel) rfl (Nat.le_of_ble_eq_true rfl) ?_
  intro p e s m below meth c Y hk2 hin hr hz hw ls hl
  have hx := Y.1
  have hb := Y.2.1
  have hS : va_S (fA b z) s.heap s.heap [] := va_S.rf
  refine lv_aload_n hx hb dX2_init_0 rfl (lv_at hl 0 rfl) ?_
  refine n_obj Y hl.1 mw_25 (Nat.le_of_ble_eq_true rfl) (Nat.le_of_ble_eq_true rfl) (Nat.le_of_ble_eq_true rfl) dX2_init_1 ?_
  refine lv_aload_n hx hb dX2_init_4 rfl (lv_at hl 0 rfl) ?_
  refine lv_iload_n hx hb dX2_init_5 rfl (lv_at hl 1 rfl) ?_
  refine lv_iconst (v := 1) hx hb dX2_init_6 (by decide) ?_
  refine lv_iadd hx hb dX2_init_7 ?_
  rw [nI_1]
  refine n_newq (T' := fun q => q = (z, .inl (g.2.2.2.1, t + 1, .inr (.inr (.inr (.inr (fun _ => none)))))) ∨ q = (b, .inr (2, [.null, .int 0]))) Y hz hw hS mw_26 hk2.2.1 2 rfl (nI_pos (by omega)) (nI_clamp (by omega)) (by omega) (by show 0 + 1 ≤ 1 + 2 * (t + 1); omega) (by show 0 + (t + 1) ≤ (t + 1) + (t + 1) * (3 + r); omega) (fun q h => h) dX2_init_8 (fun H hw hz1 hS => ?_)
  refine n_putF (T' := pTi g b z t r 0 (pF z 0)) Y hin hw hS (Or.inl rfl) (Or.inr rfl) rfl inA_X2 tyX2 tyX2_ok nmX2 0 (by decide) mw_27 rfl rfl rfl rfl (Nat.le_of_ble_eq_true rfl) ?_ dX2_init_11 (fun H locs hw hz2 hS => ?_)
  · rintro q (rfl | rfl | ⟨j, hj, h⟩)
    · exact Or.inl rfl
    · exact Or.inr ⟨Or.inl rfl, by show z ≠ b; omega⟩
    · exact absurd hj (by omega)
  refine lv_iconst (v := 0) hx hb dX2_init_14 (by decide) ?_
  refine lv_istore_n (lv' := [(3, .int 0), (0, .ref b), (1, .int (nI t)), (2, .int (nI r))]) hx hb dX2_init_15 rfl hl (by decide) rfl (fun ls hl => ?_)
  refine W.widen (k := 1 + 2 * 0) (n := (t + 1) + 0 * (3 + r)) (by omega) (by omega) ?_
  exact lX2_init hbz ht hr31 Y hk2 hr hz (t + 2) 0 H locs ls (by omega) (by omega) (by rw [hz2, hz1]) hw hS (by rw [nI_0]; exact lv_sub hl [1, 2, 3, 0] rfl)
