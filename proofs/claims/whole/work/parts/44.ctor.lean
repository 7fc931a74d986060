/-! the constructors of Bench, Chain, BigPolys and of the reference, by program -/
theorem oX0_init_1 {g : mG} {b z : Nat} (hbz : b < z) : ∀ q : Nat × va_E, (fun q => q = (b, .inr (0, [.null, .null, .null, .null, .null, .null])) ∨ pT g (z) (z + 1) 8 300 q) q → pT g (z) (z + 1) 8 300 q ∨ ((fun q => q = (b, .inr (0, [.null, .null, .null, .null, .null, .null])) ∨ q = (z, .inr (2, [.null, .int 0]))) q ∧ q.1 ≠ z) := by
  rintro q (h | h)
  · exact Or.inr ⟨(Or.inl h), (by rw [h]; show (b : Nat) ≠ z; omega)⟩
  · exact Or.inl h
theorem oX0_init_2 {g : mG} {b z : Nat} (hbz : b < z) : ∀ q : Nat × va_E, (fun q => q = (b, .inr (0, [.ref (z), .null, .null, .null, .null, .null])) ∨ pT g (z) (z + 1) 8 300 q) q → q = (b, .inr (0, [.ref (z), .null, .null, .null, .null, .null])) ∨ ((fun q => q = (b, .inr (0, [.null, .null, .null, .null, .null, .null])) ∨ pT g (z) (z + 1) 8 300 q) q ∧ q.1 ≠ b) := by
  rintro q (h | h)
  · exact Or.inl h
  · exact Or.inr ⟨(Or.inr h), (by have h9 := pT_in h; omega)⟩
theorem oX0_init_3 {g : mG} {b z : Nat} (hbz : b < z) : ∀ q : Nat × va_E, (fun q => q = (b, .inr (0, [.ref (z), .null, .null, .null, .null, .null])) ∨ pT g (z) (z + 1) 8 300 q ∨ pT g (z + 20) (z + 21) 8 60 q) q → pT g (z + 20) (z + 21) 8 60 q ∨ ((fun q => q = (b, .inr (0, [.ref (z), .null, .null, .null, .null, .null])) ∨ pT g (z) (z + 1) 8 300 q ∨ q = (z + 20, .inr (2, [.null, .int 0]))) q ∧ q.1 ≠ z + 20) := by
  rintro q (h | h | h)
  · exact Or.inr ⟨(Or.inl h), (by rw [h]; show (b : Nat) ≠ z + 20; omega)⟩
  · exact Or.inr ⟨(Or.inr (Or.inl h)), (by have h9 := pT_in h; omega)⟩
  · exact Or.inl h
theorem oX0_init_4 {g : mG} {b z : Nat} (hbz : b < z) : ∀ q : Nat × va_E, (fun q => q = (b, .inr (0, [.ref (z), .ref (z + 20), .null, .null, .null, .null])) ∨ pT g (z) (z + 1) 8 300 q ∨ pT g (z + 20) (z + 21) 8 60 q) q → q = (b, .inr (0, [.ref (z), .ref (z + 20), .null, .null, .null, .null])) ∨ ((fun q => q = (b, .inr (0, [.ref (z), .null, .null, .null, .null, .null])) ∨ pT g (z) (z + 1) 8 300 q ∨ pT g (z + 20) (z + 21) 8 60 q) q ∧ q.1 ≠ b) := by
  rintro q (h | h | h)
  · exact Or.inl h
  · exact Or.inr ⟨(Or.inr (Or.inl h)), (by have h9 := pT_in h; omega)⟩
  · exact Or.inr ⟨(Or.inr (Or.inr h)), (by have h9 := pT_in h; omega)⟩
theorem oX0_init_5 {g : mG} {b z : Nat} (hbz : b < z) : ∀ q : Nat × va_E, (fun q => q = (b, .inr (0, [.ref (z), .ref (z + 20), .null, .null, .null, .null])) ∨ pT g (z) (z + 1) 8 300 q ∨ pT g (z + 20) (z + 21) 8 60 q ∨ wT g (z + 40) (z + 41) 300 q) q → wT g (z + 40) (z + 41) 300 q ∨ ((fun q => q = (b, .inr (0, [.ref (z), .ref (z + 20), .null, .null, .null, .null])) ∨ pT g (z) (z + 1) 8 300 q ∨ pT g (z + 20) (z + 21) 8 60 q ∨ q = (z + 40, .inr (3, [.null, .int 0, .int 0]))) q ∧ q.1 ≠ z + 40) := by
  rintro q (h | h | h | h)
  · exact Or.inr ⟨(Or.inl h), (by rw [h]; show (b : Nat) ≠ z + 40; omega)⟩
  · exact Or.inr ⟨(Or.inr (Or.inl h)), (by have h9 := pT_in h; omega)⟩
  · exact Or.inr ⟨(Or.inr (Or.inr (Or.inl h))), (by have h9 := pT_in h; omega)⟩
  · exact Or.inl h
theorem oX0_init_6 {g : mG} {b z : Nat} (hbz : b < z) : ∀ q : Nat × va_E, (fun q => q = (b, .inr (0, [.ref (z), .ref (z + 20), .ref (z + 40), .null, .null, .null])) ∨ pT g (z) (z + 1) 8 300 q ∨ pT g (z + 20) (z + 21) 8 60 q ∨ wT g (z + 40) (z + 41) 300 q) q → q = (b, .inr (0, [.ref (z), .ref (z + 20), .ref (z + 40), .null, .null, .null])) ∨ ((fun q => q = (b, .inr (0, [.ref (z), .ref (z + 20), .null, .null, .null, .null])) ∨ pT g (z) (z + 1) 8 300 q ∨ pT g (z + 20) (z + 21) 8 60 q ∨ wT g (z + 40) (z + 41) 300 q) q ∧ q.1 ≠ b) := by
  rintro q (h | h | h | h)
  · exact Or.inl h
  · exact Or.inr ⟨(Or.inr (Or.inl h)), (by have h9 := pT_in h; omega)⟩
  · exact Or.inr ⟨(Or.inr (Or.inr (Or.inl h))), (by have h9 := pT_in h; omega)⟩
  · exact Or.inr ⟨(Or.inr (Or.inr (Or.inr h))), (by have h9 := wT_in h; omega)⟩
theorem oX0_init_7 {g : mG} {b z : Nat} (hbz : b < z) : ∀ q : Nat × va_E, (fun q => q = (b, .inr (0, [.ref (z), .ref (z + 20), .ref (z + 40), .null, .null, .null])) ∨ pT g (z) (z + 1) 8 300 q ∨ pT g (z + 20) (z + 21) 8 60 q ∨ wT g (z + 40) (z + 41) 300 q ∨ wT g (z + 42) (z + 43) 300 q) q → wT g (z + 42) (z + 43) 300 q ∨ ((fun q => q = (b, .inr (0, [.ref (z), .ref (z + 20), .ref (z + 40), .null, .null, .null])) ∨ pT g (z) (z + 1) 8 300 q ∨ pT g (z + 20) (z + 21) 8 60 q ∨ wT g (z + 40) (z + 41) 300 q ∨ q = (z + 42, .inr (3, [.null, .int 0, .int 0]))) q ∧ q.1 ≠ z + 42) := by
  rintro q (h | h | h | h | h)
  · exact Or.inr ⟨(Or.inl h), (by rw [h]; show (b : Nat) ≠ z + 42; omega)⟩
  · exact Or.inr ⟨(Or.inr (Or.inl h)), (by have h9 := pT_in h; omega)⟩
  · exact Or.inr ⟨(Or.inr (Or.inr (Or.inl h))), (by have h9 := pT_in h; omega)⟩
  · exact Or.inr ⟨(Or.inr (Or.inr (Or.inr (Or.inl h)))), (by have h9 := wT_in h; omega)⟩
  · exact Or.inl h
theorem oX0_init_8 {g : mG} {b z : Nat} (hbz : b < z) : ∀ q : Nat × va_E, (fun q => q = (b, .inr (0, [.ref (z), .ref (z + 20), .ref (z + 40), .ref (z + 42), .null, .null])) ∨ pT g (z) (z + 1) 8 300 q ∨ pT g (z + 20) (z + 21) 8 60 q ∨ wT g (z + 40) (z + 41) 300 q ∨ wT g (z + 42) (z + 43) 300 q) q → q = (b, .inr (0, [.ref (z), .ref (z + 20), .ref (z + 40), .ref (z + 42), .null, .null])) ∨ ((fun q => q = (b, .inr (0, [.ref (z), .ref (z + 20), .ref (z + 40), .null, .null, .null])) ∨ pT g (z) (z + 1) 8 300 q ∨ pT g (z + 20) (z + 21) 8 60 q ∨ wT g (z + 40) (z + 41) 300 q ∨ wT g (z + 42) (z + 43) 300 q) q ∧ q.1 ≠ b) := by
  rintro q (h | h | h | h | h)
  · exact Or.inl h
  · exact Or.inr ⟨(Or.inr (Or.inl h)), (by have h9 := pT_in h; omega)⟩
  · exact Or.inr ⟨(Or.inr (Or.inr (Or.inl h))), (by have h9 := pT_in h; omega)⟩
  · exact Or.inr ⟨(Or.inr (Or.inr (Or.inr (Or.inl h)))), (by have h9 := wT_in h; omega)⟩
  · exact Or.inr ⟨(Or.inr (Or.inr (Or.inr (Or.inr h)))), (by have h9 := wT_in h; omega)⟩
theorem oX0_init_9 {g : mG} {b z : Nat} (hbz : b < z) : ∀ q : Nat × va_E, (fun q => q = (b, .inr (0, [.ref (z), .ref (z + 20), .ref (z + 40), .ref (z + 42), .null, .null])) ∨ pT g (z) (z + 1) 8 300 q ∨ pT g (z + 20) (z + 21) 8 60 q ∨ wT g (z + 40) (z + 41) 300 q ∨ wT g (z + 42) (z + 43) 300 q ∨ wT g (z + 44) (z + 45) 300 q) q → wT g (z + 44) (z + 45) 300 q ∨ ((fun q => q = (b, .inr (0, [.ref (z), .ref (z + 20), .ref (z + 40), .ref (z + 42), .null, .null])) ∨ pT g (z) (z + 1) 8 300 q ∨ pT g (z + 20) (z + 21) 8 60 q ∨ wT g (z + 40) (z + 41) 300 q ∨ wT g (z + 42) (z + 43) 300 q ∨ q = (z + 44, .inr (3, [.null, .int 0, .int 0]))) q ∧ q.1 ≠ z + 44) := by
  rintro q (h | h | h | h | h | h)
  · exact Or.inr ⟨(Or.inl h), (by rw [h]; show (b : Nat) ≠ z + 44; omega)⟩
  · exact Or.inr ⟨(Or.inr (Or.inl h)), (by have h9 := pT_in h; omega)⟩
  · exact Or.inr ⟨(Or.inr (Or.inr (Or.inl h))), (by have h9 := pT_in h; omega)⟩
  · exact Or.inr ⟨(Or.inr (Or.inr (Or.inr (Or.inl h)))), (by have h9 := wT_in h; omega)⟩
  · exact Or.inr ⟨(Or.inr (Or.inr (Or.inr (Or.inr (Or.inl h))))), (by have h9 := wT_in h; omega)⟩
  · exact Or.inl h
theorem oX0_init_10 {g : mG} {b z : Nat} (hbz : b < z) : ∀ q : Nat × va_E, (fun q => q = (b, .inr (0, [.ref (z), .ref (z + 20), .ref (z + 40), .ref (z + 42), .ref (z + 44), .null])) ∨ pT g (z) (z + 1) 8 300 q ∨ pT g (z + 20) (z + 21) 8 60 q ∨ wT g (z + 40) (z + 41) 300 q ∨ wT g (z + 42) (z + 43) 300 q ∨ wT g (z + 44) (z + 45) 300 q) q → q = (b, .inr (0, [.ref (z), .ref (z + 20), .ref (z + 40), .ref (z + 42), .ref (z + 44), .null])) ∨ ((fun q => q = (b, .inr (0, [.ref (z), .ref (z + 20), .ref (z + 40), .ref (z + 42), .null, .null])) ∨ pT g (z) (z + 1) 8 300 q ∨ pT g (z + 20) (z + 21) 8 60 q ∨ wT g (z + 40) (z + 41) 300 q ∨ wT g (z + 42) (z + 43) 300 q ∨ wT g (z + 44) (z + 45) 300 q) q ∧ q.1 ≠ b) := by
  rintro q (h | h | h | h | h | h)
  · exact Or.inl h
  · exact Or.inr ⟨(Or.inr (Or.inl h)), (by have h9 := pT_in h; omega)⟩
  · exact Or.inr ⟨(Or.inr (Or.inr (Or.inl h))), (by have h9 := pT_in h; omega)⟩
  · exact Or.inr ⟨(Or.inr (Or.inr (Or.inr (Or.inl h)))), (by have h9 := wT_in h; omega)⟩
  · exact Or.inr ⟨(Or.inr (Or.inr (Or.inr (Or.inr (Or.inl h))))), (by have h9 := wT_in h; omega)⟩
  · exact Or.inr ⟨(Or.inr (Or.inr (Or.inr (Or.inr (Or.inr h))))), (by have h9 := wT_in h; omega)⟩
theorem oX0_init_11 {g : mG} {b z : Nat} (hbz : b < z) : ∀ q : Nat × va_E, (fun q => q = (b, .inr (0, [.ref (z), .ref (z + 20), .ref (z + 40), .ref (z + 42), .ref (z + 44), .null])) ∨ pT g (z) (z + 1) 8 300 q ∨ pT g (z + 20) (z + 21) 8 60 q ∨ wT g (z + 40) (z + 41) 300 q ∨ wT g (z + 42) (z + 43) 300 q ∨ wT g (z + 44) (z + 45) 300 q ∨ wT g (z + 46) (z + 47) 300 q) q → wT g (z + 46) (z + 47) 300 q ∨ ((fun q => q = (b, .inr (0, [.ref (z), .ref (z + 20), .ref (z + 40), .ref (z + 42), .ref (z + 44), .null])) ∨ pT g (z) (z + 1) 8 300 q ∨ pT g (z + 20) (z + 21) 8 60 q ∨ wT g (z + 40) (z + 41) 300 q ∨ wT g (z + 42) (z + 43) 300 q ∨ wT g (z + 44) (z + 45) 300 q ∨ q = (z + 46, .inr (3, [.null, .int 0, .int 0]))) q ∧ q.1 ≠ z + 46) := by
  rintro q (h | h | h | h | h | h | h)
  · exact Or.inr ⟨(Or.inl h), (by rw [h]; show (b : Nat) ≠ z + 46; omega)⟩
  · exact Or.inr ⟨(Or.inr (Or.inl h)), (by have h9 := pT_in h; omega)⟩
  · exact Or.inr ⟨(Or.inr (Or.inr (Or.inl h))), (by have h9 := pT_in h; omega)⟩
  · exact Or.inr ⟨(Or.inr (Or.inr (Or.inr (Or.inl h)))), (by have h9 := wT_in h; omega)⟩
  · exact Or.inr ⟨(Or.inr (Or.inr (Or.inr (Or.inr (Or.inl h))))), (by have h9 := wT_in h; omega)⟩
  · exact Or.inr ⟨(Or.inr (Or.inr (Or.inr (Or.inr (Or.inr (Or.inl h)))))), (by have h9 := wT_in h; omega)⟩
  · exact Or.inl h
theorem oX0_init_12 {g : mG} {b z : Nat} (hbz : b < z) : ∀ q : Nat × va_E, (fun q => q = (b, .inr (0, [.ref (z), .ref (z + 20), .ref (z + 40), .ref (z + 42), .ref (z + 44), .ref (z + 46)])) ∨ pT g (z) (z + 1) 8 300 q ∨ pT g (z + 20) (z + 21) 8 60 q ∨ wT g (z + 40) (z + 41) 300 q ∨ wT g (z + 42) (z + 43) 300 q ∨ wT g (z + 44) (z + 45) 300 q ∨ wT g (z + 46) (z + 47) 300 q) q → q = (b, .inr (0, [.ref (z), .ref (z + 20), .ref (z + 40), .ref (z + 42), .ref (z + 44), .ref (z + 46)])) ∨ ((fun q => q = (b, .inr (0, [.ref (z), .ref (z + 20), .ref (z + 40), .ref (z + 42), .ref (z + 44), .null])) ∨ pT g (z) (z + 1) 8 300 q ∨ pT g (z + 20) (z + 21) 8 60 q ∨ wT g (z + 40) (z + 41) 300 q ∨ wT g (z + 42) (z + 43) 300 q ∨ wT g (z + 44) (z + 45) 300 q ∨ wT g (z + 46) (z + 47) 300 q) q ∧ q.1 ≠ b) := by
  rintro q (h | h | h | h | h | h | h)
  · exact Or.inl h
  · exact Or.inr ⟨(Or.inr (Or.inl h)), (by have h9 := pT_in h; omega)⟩
  · exact Or.inr ⟨(Or.inr (Or.inr (Or.inl h))), (by have h9 := pT_in h; omega)⟩
  · exact Or.inr ⟨(Or.inr (Or.inr (Or.inr (Or.inl h)))), (by have h9 := wT_in h; omega)⟩
  · exact Or.inr ⟨(Or.inr (Or.inr (Or.inr (Or.inr (Or.inl h))))), (by have h9 := wT_in h; omega)⟩
  · exact Or.inr ⟨(Or.inr (Or.inr (Or.inr (Or.inr (Or.inr (Or.inl h)))))), (by have h9 := wT_in h; omega)⟩
  · exact Or.inr ⟨(Or.inr (Or.inr (Or.inr (Or.inr (Or.inr (Or.inr h)))))), (by have h9 := wT_in h; omega)⟩
def bT (g : mG) (b z : Nat) : Nat × va_E → Prop := fun q => q = (b, .inr (0, [.ref (z), .ref (z + 20), .ref (z + 40), .ref (z + 42), .ref (z + 44), .ref (z + 46)])) ∨ pT g (z) (z + 1) 8 300 q ∨ pT g (z + 20) (z + 21) 8 60 q ∨ wT g (z + 40) (z + 41) 300 q ∨ wT g (z + 42) (z + 43) 300 q ∨ wT g (z + 44) (z + 45) 300 q ∨ wT g (z + 46) (z + 47) 300 q
theorem bT_in {g : mG} {b z : Nat} {q : Nat × va_E} (h : bT g b z q) : q.1 = b ∨ (z ≤ q.1 ∧ q.1 < z + 48) := by
  rcases h with h | h | h | h | h | h | h
  · rw [h]; show (b : Nat) = b ∨ (z ≤ b ∧ b < z + 48); omega
  · have h9 := pT_in h; omega
  · have h9 := pT_in h; omega
  · have h9 := wT_in h; omega
  · have h9 := wT_in h; omega
  · have h9 := wT_in h; omega
  · have h9 := wT_in h; omega
abbrev rm_X0_init : Room := { frames := 3, cells := 48, slots := 4528, locals := 56 }
set_option maxRecDepth 100000 in
set_option maxHeartbeats 4000000 in
theorem kX0_init {l : Launch} {D : va_G} {g : mG} {b z : Nat} (hbz : b < z) : Met l yX0_init (Cond.code yX0_init cX0_init 1 none :: wsA) rm_X0_init (nPc D g z (fun q => q = (b, .inr (0, [.null, .null, .null, .null, .null, .null]))) [.ref b]) (nQc D b z (z + 48) (bT g b z)) 48 4528 (fA b z) := by
  refine n_met (by decide +kernel) rfl (Nat.le_of_ble_eq_true rfl) ?_
  intro p e s m below meth c Y hk2 hin hr hz hw ls hl
  have hx := Y.1
  have hb := Y.2.1
  have hml := Y.2.2.1
  have hown := Y.2.2.2.1
  have hts := Y.2.2.2.2.1
  have hS : va_S (fA b z) s.heap s.heap [] := va_S.rf
  refine lv_aload_n hx hb dX0_init_0 rfl (lv_at hl 0 rfl) ?_
  refine n_obj Y hl.1 mw_58 (Nat.le_of_ble_eq_true rfl) (Nat.le_of_ble_eq_true rfl) (Nat.le_of_ble_eq_true rfl) dX0_init_1 ?_
  refine lv_aload_n hx hb dX0_init_4 rfl (lv_at hl 0 rfl) ?_
  refine n_new (ci := 2) (fs := [.null, .int 0]) (T' := fun q => q = (b, .inr (0, [.null, .null, .null, .null, .null, .null])) ∨ q = (z, .inr (2, [.null, .int 0]))) Y hz hw hS rfl inA_X2 tyX2 tyX2_ok mw_59 mw_14 mw_15 (fun j hj => by rcases (show j = 0 ∨ j = 1 by omega) with rfl | rfl <;> rfl) (Nat.le_of_ble_eq_true rfl) (Nat.le_of_ble_eq_true rfl) ?_ dX0_init_5 (fun H hw hz hS => ?_)
  · rintro q (h | h)
    · exact Or.inr h
    · exact Or.inl h
  replace hz : H.size = z + 1 := hz
  refine W.widen (k := 1) (n := 2) (Nat.le_of_ble_eq_true rfl) (Nat.le_of_ble_eq_true rfl) ?_
  refine lv_dup hx hb dX0_init_8 rfl ?_
  refine lv_bipush (v := (8 : Int32)) hx hb dX0_init_9 (by decide) ?_
  refine lv_sipush (v := (300 : Int32)) hx hb dX0_init_11 (by decide) ?_
  refine n_callI (n := 2) (T' := fun q => q = (b, .inr (0, [.null, .null, .null, .null, .null, .null])) ∨ pT g (z) (z + 1) 8 300 q) (As := [.int (8 : Int32), .int (300 : Int32)]) (rest := [.ref (z), .ref b]) Y hk2 hl.1 hz hw hS (Or.inr (Nat.le_refl z)) (fun q hq => Or.inr (Nat.le_trans (Nat.le_add_right z _) hq)) (kX2_init (b := z) (z := z + 1) (t := 8) (r := 300) (Nat.lt_succ_self _) (by decide) (by decide)) (fun q h => (Or.inr h)) mw_67 mw_23 mw_15 mw_24 rfl (by decide +kernel) rfl rfl ⟨Nat.le_of_ble_eq_true rfl, Nat.le_of_ble_eq_true rfl⟩ ⟨Nat.le_of_ble_eq_true rfl, Nat.le_of_ble_eq_true rfl⟩ rfl rfl (Nat.le_of_ble_eq_true rfl) (oX0_init_1 hbz) dX0_init_14 (fun H locs hw hz hS => ?_)
  replace hz : H.size = z + 20 := hz
  refine W.widen (k := 20) (n := 2738) (Nat.le_of_ble_eq_true rfl) (Nat.le_of_ble_eq_true rfl) ?_
  refine n_putF (T' := fun q => q = (b, .inr (0, [.ref (z), .null, .null, .null, .null, .null])) ∨ pT g (z) (z + 1) 8 300 q) Y hin hw hS (Or.inl rfl) (Or.inl rfl) rfl inA_X0 tyX0 tyX0_ok nmX0 0 (by decide) mw_60 rfl rfl rfl rfl (Nat.le_of_ble_eq_true rfl) (oX0_init_2 hbz) dX0_init_17 (fun H locs hw hz2 hS => ?_)
  replace hz := hz2.trans hz
  clear hz2
  refine lv_aload_n hx hb dX0_init_20 rfl (lv_at hl 0 rfl) ?_
  refine n_new (ci := 2) (fs := [.null, .int 0]) (T' := fun q => q = (b, .inr (0, [.ref (z), .null, .null, .null, .null, .null])) ∨ pT g (z) (z + 1) 8 300 q ∨ q = (z + 20, .inr (2, [.null, .int 0]))) Y hz hw hS rfl inA_X2 tyX2 tyX2_ok mw_59 mw_14 mw_15 (fun j hj => by rcases (show j = 0 ∨ j = 1 by omega) with rfl | rfl <;> rfl) (Nat.le_of_ble_eq_true rfl) (Nat.le_of_ble_eq_true rfl) ?_ dX0_init_21 (fun H hw hz hS => ?_)
  · rintro q (h | h | h)
    · exact Or.inr (Or.inl h)
    · exact Or.inr (Or.inr h)
    · exact Or.inl h
  replace hz : H.size = z + 21 := hz
  refine W.widen (k := 21) (n := 2740) (Nat.le_of_ble_eq_true rfl) (Nat.le_of_ble_eq_true rfl) ?_
  refine lv_dup hx hb dX0_init_24 rfl ?_
  refine lv_bipush (v := (8 : Int32)) hx hb dX0_init_25 (by decide) ?_
  refine lv_bipush (v := (60 : Int32)) hx hb dX0_init_27 (by decide) ?_
  refine n_callI (n := 2) (T' := fun q => q = (b, .inr (0, [.ref (z), .null, .null, .null, .null, .null])) ∨ pT g (z) (z + 1) 8 300 q ∨ pT g (z + 20) (z + 21) 8 60 q) (As := [.int (8 : Int32), .int (60 : Int32)]) (rest := [.ref (z + 20), .ref b]) Y hk2 hl.1 hz hw hS (Or.inr (Nat.le_add_right z _)) (fun q hq => Or.inr (Nat.le_trans (Nat.le_add_right z _) hq)) (kX2_init (b := z + 20) (z := z + 21) (t := 8) (r := 60) (Nat.lt_succ_self _) (by decide) (by decide)) (fun q h => (Or.inr (Or.inr h))) mw_67 mw_23 mw_15 mw_24 rfl (by decide +kernel) rfl rfl ⟨Nat.le_of_ble_eq_true rfl, Nat.le_of_ble_eq_true rfl⟩ ⟨Nat.le_of_ble_eq_true rfl, Nat.le_of_ble_eq_true rfl⟩ rfl rfl (Nat.le_of_ble_eq_true rfl) (oX0_init_3 hbz) dX0_init_29 (fun H locs hw hz hS => ?_)
  replace hz : H.size = z + 40 := hz
  refine W.widen (k := 40) (n := 3316) (Nat.le_of_ble_eq_true rfl) (Nat.le_of_ble_eq_true rfl) ?_
  refine n_putF (T' := fun q => q = (b, .inr (0, [.ref (z), .ref (z + 20), .null, .null, .null, .null])) ∨ pT g (z) (z + 1) 8 300 q ∨ pT g (z + 20) (z + 21) 8 60 q) Y hin hw hS (Or.inl rfl) (Or.inl rfl) rfl inA_X0 tyX0 tyX0_ok nmX0 1 (by decide) mw_61 rfl rfl rfl rfl (Nat.le_of_ble_eq_true rfl) (oX0_init_4 hbz) dX0_init_32 (fun H locs hw hz2 hS => ?_)
  replace hz := hz2.trans hz
  clear hz2
  refine lv_aload_n hx hb dX0_init_35 rfl (lv_at hl 0 rfl) ?_
  refine n_new (ci := 3) (fs := [.null, .int 0, .int 0]) (T' := fun q => q = (b, .inr (0, [.ref (z), .ref (z + 20), .null, .null, .null, .null])) ∨ pT g (z) (z + 1) 8 300 q ∨ pT g (z + 20) (z + 21) 8 60 q ∨ q = (z + 40, .inr (3, [.null, .int 0, .int 0]))) Y hz hw hS rfl inA_X3 tyX3 tyX3_ok mw_62 mw_28 mw_29 (fun j hj => by rcases (show j = 0 ∨ j = 1 ∨ j = 2 by omega) with rfl | rfl | rfl <;> rfl) (Nat.le_of_ble_eq_true rfl) (Nat.le_of_ble_eq_true rfl) ?_ dX0_init_36 (fun H hw hz hS => ?_)
  · rintro q (h | h | h | h)
    · exact Or.inr (Or.inl h)
    · exact Or.inr (Or.inr (Or.inl h))
    · exact Or.inr (Or.inr (Or.inr h))
    · exact Or.inl h
  replace hz : H.size = z + 41 := hz
  refine W.widen (k := 41) (n := 3319) (Nat.le_of_ble_eq_true rfl) (Nat.le_of_ble_eq_true rfl) ?_
  refine lv_dup hx hb dX0_init_39 rfl ?_
  refine lv_sipush (v := (300 : Int32)) hx hb dX0_init_40 (by decide) ?_
  refine n_callI (n := 1) (T' := fun q => q = (b, .inr (0, [.ref (z), .ref (z + 20), .null, .null, .null, .null])) ∨ pT g (z) (z + 1) 8 300 q ∨ pT g (z + 20) (z + 21) 8 60 q ∨ wT g (z + 40) (z + 41) 300 q) (As := [.int (300 : Int32)]) (rest := [.ref (z + 40), .ref b]) Y hk2 hl.1 hz hw hS (Or.inr (Nat.le_add_right z _)) (fun q hq => Or.inr (Nat.le_trans (Nat.le_add_right z _) hq)) (kX3_init (b := z + 40) (z := z + 41) (r := 300) (Nat.lt_succ_self _) (by decide)) (fun q h => (Or.inr (Or.inr (Or.inr h)))) mw_68 mw_32 mw_29 mw_33 rfl (by decide +kernel) rfl rfl ⟨Nat.le_of_ble_eq_true rfl, Nat.le_of_ble_eq_true rfl⟩ ⟨Nat.le_of_ble_eq_true rfl, Nat.le_of_ble_eq_true rfl⟩ rfl rfl (Nat.le_of_ble_eq_true rfl) (oX0_init_5 hbz) dX0_init_43 (fun H locs hw hz hS => ?_)
  replace hz : H.size = z + 42 := hz
  refine W.widen (k := 42) (n := 3619) (Nat.le_of_ble_eq_true rfl) (Nat.le_of_ble_eq_true rfl) ?_
  refine n_putF (T' := fun q => q = (b, .inr (0, [.ref (z), .ref (z + 20), .ref (z + 40), .null, .null, .null])) ∨ pT g (z) (z + 1) 8 300 q ∨ pT g (z + 20) (z + 21) 8 60 q ∨ wT g (z + 40) (z + 41) 300 q) Y hin hw hS (Or.inl rfl) (Or.inl rfl) rfl inA_X0 tyX0 tyX0_ok nmX0 2 (by decide) mw_63 rfl rfl rfl rfl (Nat.le_of_ble_eq_true rfl) (oX0_init_6 hbz) dX0_init_46 (fun H locs hw hz2 hS => ?_)
  replace hz := hz2.trans hz
  clear hz2
  refine lv_aload_n hx hb dX0_init_49 rfl (lv_at hl 0 rfl) ?_
  refine n_new (ci := 3) (fs := [.null, .int 0, .int 0]) (T' := fun q => q = (b, .inr (0, [.ref (z), .ref (z + 20), .ref (z + 40), .null, .null, .null])) ∨ pT g (z) (z + 1) 8 300 q ∨ pT g (z + 20) (z + 21) 8 60 q ∨ wT g (z + 40) (z + 41) 300 q ∨ q = (z + 42, .inr (3, [.null, .int 0, .int 0]))) Y hz hw hS rfl inA_X3 tyX3 tyX3_ok mw_62 mw_28 mw_29 (fun j hj => by rcases (show j = 0 ∨ j = 1 ∨ j = 2 by omega) with rfl | rfl | rfl <;> rfl) (Nat.le_of_ble_eq_true rfl) (Nat.le_of_ble_eq_true rfl) ?_ dX0_init_50 (fun H hw hz hS => ?_)
  · rintro q (h | h | h | h | h)
    · exact Or.inr (Or.inl h)
    · exact Or.inr (Or.inr (Or.inl h))
    · exact Or.inr (Or.inr (Or.inr (Or.inl h)))
    · exact Or.inr (Or.inr (Or.inr (Or.inr h)))
    · exact Or.inl h
  replace hz : H.size = z + 43 := hz
  refine W.widen (k := 43) (n := 3622) (Nat.le_of_ble_eq_true rfl) (Nat.le_of_ble_eq_true rfl) ?_
  refine lv_dup hx hb dX0_init_53 rfl ?_
  refine lv_sipush (v := (300 : Int32)) hx hb dX0_init_54 (by decide) ?_
  refine n_callI (n := 1) (T' := fun q => q = (b, .inr (0, [.ref (z), .ref (z + 20), .ref (z + 40), .null, .null, .null])) ∨ pT g (z) (z + 1) 8 300 q ∨ pT g (z + 20) (z + 21) 8 60 q ∨ wT g (z + 40) (z + 41) 300 q ∨ wT g (z + 42) (z + 43) 300 q) (As := [.int (300 : Int32)]) (rest := [.ref (z + 42), .ref b]) Y hk2 hl.1 hz hw hS (Or.inr (Nat.le_add_right z _)) (fun q hq => Or.inr (Nat.le_trans (Nat.le_add_right z _) hq)) (kX3_init (b := z + 42) (z := z + 43) (r := 300) (Nat.lt_succ_self _) (by decide)) (fun q h => (Or.inr (Or.inr (Or.inr (Or.inr h))))) mw_68 mw_32 mw_29 mw_33 rfl (by decide +kernel) rfl rfl ⟨Nat.le_of_ble_eq_true rfl, Nat.le_of_ble_eq_true rfl⟩ ⟨Nat.le_of_ble_eq_true rfl, Nat.le_of_ble_eq_true rfl⟩ rfl rfl (Nat.le_of_ble_eq_true rfl) (oX0_init_7 hbz) dX0_init_57 (fun H locs hw hz hS => ?_)
  replace hz : H.size = z + 44 := hz
  refine W.widen (k := 44) (n := 3922) (Nat.le_of_ble_eq_true rfl) (Nat.le_of_ble_eq_true rfl) ?_
  refine n_putF (T' := fun q => q = (b, .inr (0, [.ref (z), .ref (z + 20), .ref (z + 40), .ref (z + 42), .null, .null])) ∨ pT g (z) (z + 1) 8 300 q ∨ pT g (z + 20) (z + 21) 8 60 q ∨ wT g (z + 40) (z + 41) 300 q ∨ wT g (z + 42) (z + 43) 300 q) Y hin hw hS (Or.inl rfl) (Or.inl rfl) rfl inA_X0 tyX0 tyX0_ok nmX0 3 (by decide) mw_64 rfl rfl rfl rfl (Nat.le_of_ble_eq_true rfl) (oX0_init_8 hbz) dX0_init_60 (fun H locs hw hz2 hS => ?_)
  replace hz := hz2.trans hz
  clear hz2
  refine lv_aload_n hx hb dX0_init_63 rfl (lv_at hl 0 rfl) ?_
  refine n_new (ci := 3) (fs := [.null, .int 0, .int 0]) (T' := fun q => q = (b, .inr (0, [.ref (z), .ref (z + 20), .ref (z + 40), .ref (z + 42), .null, .null])) ∨ pT g (z) (z + 1) 8 300 q ∨ pT g (z + 20) (z + 21) 8 60 q ∨ wT g (z + 40) (z + 41) 300 q ∨ wT g (z + 42) (z + 43) 300 q ∨ q = (z + 44, .inr (3, [.null, .int 0, .int 0]))) Y hz hw hS rfl inA_X3 tyX3 tyX3_ok mw_62 mw_28 mw_29 (fun j hj => by rcases (show j = 0 ∨ j = 1 ∨ j = 2 by omega) with rfl | rfl | rfl <;> rfl) (Nat.le_of_ble_eq_true rfl) (Nat.le_of_ble_eq_true rfl) ?_ dX0_init_64 (fun H hw hz hS => ?_)
  · rintro q (h | h | h | h | h | h)
    · exact Or.inr (Or.inl h)
    · exact Or.inr (Or.inr (Or.inl h))
    · exact Or.inr (Or.inr (Or.inr (Or.inl h)))
    · exact Or.inr (Or.inr (Or.inr (Or.inr (Or.inl h))))
    · exact Or.inr (Or.inr (Or.inr (Or.inr (Or.inr h))))
    · exact Or.inl h
  replace hz : H.size = z + 45 := hz
  refine W.widen (k := 45) (n := 3925) (Nat.le_of_ble_eq_true rfl) (Nat.le_of_ble_eq_true rfl) ?_
  refine lv_dup hx hb dX0_init_67 rfl ?_
  refine lv_sipush (v := (300 : Int32)) hx hb dX0_init_68 (by decide) ?_
  refine n_callI (n := 1) (T' := fun q => q = (b, .inr (0, [.ref (z), .ref (z + 20), .ref (z + 40), .ref (z + 42), .null, .null])) ∨ pT g (z) (z + 1) 8 300 q ∨ pT g (z + 20) (z + 21) 8 60 q ∨ wT g (z + 40) (z + 41) 300 q ∨ wT g (z + 42) (z + 43) 300 q ∨ wT g (z + 44) (z + 45) 300 q) (As := [.int (300 : Int32)]) (rest := [.ref (z + 44), .ref b]) Y hk2 hl.1 hz hw hS (Or.inr (Nat.le_add_right z _)) (fun q hq => Or.inr (Nat.le_trans (Nat.le_add_right z _) hq)) (kX3_init (b := z + 44) (z := z + 45) (r := 300) (Nat.lt_succ_self _) (by decide)) (fun q h => (Or.inr (Or.inr (Or.inr (Or.inr (Or.inr h)))))) mw_68 mw_32 mw_29 mw_33 rfl (by decide +kernel) rfl rfl ⟨Nat.le_of_ble_eq_true rfl, Nat.le_of_ble_eq_true rfl⟩ ⟨Nat.le_of_ble_eq_true rfl, Nat.le_of_ble_eq_true rfl⟩ rfl rfl (Nat.le_of_ble_eq_true rfl) (oX0_init_9 hbz) dX0_init_71 (fun H locs hw hz hS => ?_)
  replace hz : H.size = z + 46 := hz
  refine W.widen (k := 46) (n := 4225) (Nat.le_of_ble_eq_true rfl) (Nat.le_of_ble_eq_true rfl) ?_
  refine n_putF (T' := fun q => q = (b, .inr (0, [.ref (z), .ref (z + 20), .ref (z + 40), .ref (z + 42), .ref (z + 44), .null])) ∨ pT g (z) (z + 1) 8 300 q ∨ pT g (z + 20) (z + 21) 8 60 q ∨ wT g (z + 40) (z + 41) 300 q ∨ wT g (z + 42) (z + 43) 300 q ∨ wT g (z + 44) (z + 45) 300 q) Y hin hw hS (Or.inl rfl) (Or.inl rfl) rfl inA_X0 tyX0 tyX0_ok nmX0 4 (by decide) mw_65 rfl rfl rfl rfl (Nat.le_of_ble_eq_true rfl) (oX0_init_10 hbz) dX0_init_74 (fun H locs hw hz2 hS => ?_)
  replace hz := hz2.trans hz
  clear hz2
  refine lv_aload_n hx hb dX0_init_77 rfl (lv_at hl 0 rfl) ?_
  refine n_new (ci := 3) (fs := [.null, .int 0, .int 0]) (T' := fun q => q = (b, .inr (0, [.ref (z), .ref (z + 20), .ref (z + 40), .ref (z + 42), .ref (z + 44), .null])) ∨ pT g (z) (z + 1) 8 300 q ∨ pT g (z + 20) (z + 21) 8 60 q ∨ wT g (z + 40) (z + 41) 300 q ∨ wT g (z + 42) (z + 43) 300 q ∨ wT g (z + 44) (z + 45) 300 q ∨ q = (z + 46, .inr (3, [.null, .int 0, .int 0]))) Y hz hw hS rfl inA_X3 tyX3 tyX3_ok mw_62 mw_28 mw_29 (fun j hj => by rcases (show j = 0 ∨ j = 1 ∨ j = 2 by omega) with rfl | rfl | rfl <;> rfl) (Nat.le_of_ble_eq_true rfl) (Nat.le_of_ble_eq_true rfl) ?_ dX0_init_78 (fun H hw hz hS => ?_)
  · rintro q (h | h | h | h | h | h | h)
    · exact Or.inr (Or.inl h)
    · exact Or.inr (Or.inr (Or.inl h))
    · exact Or.inr (Or.inr (Or.inr (Or.inl h)))
    · exact Or.inr (Or.inr (Or.inr (Or.inr (Or.inl h))))
    · exact Or.inr (Or.inr (Or.inr (Or.inr (Or.inr (Or.inl h)))))
    · exact Or.inr (Or.inr (Or.inr (Or.inr (Or.inr (Or.inr h)))))
    · exact Or.inl h
  replace hz : H.size = z + 47 := hz
  refine W.widen (k := 47) (n := 4228) (Nat.le_of_ble_eq_true rfl) (Nat.le_of_ble_eq_true rfl) ?_
  refine lv_dup hx hb dX0_init_81 rfl ?_
  refine lv_sipush (v := (300 : Int32)) hx hb dX0_init_82 (by decide) ?_
  refine n_callI (n := 1) (T' := fun q => q = (b, .inr (0, [.ref (z), .ref (z + 20), .ref (z + 40), .ref (z + 42), .ref (z + 44), .null])) ∨ pT g (z) (z + 1) 8 300 q ∨ pT g (z + 20) (z + 21) 8 60 q ∨ wT g (z + 40) (z + 41) 300 q ∨ wT g (z + 42) (z + 43) 300 q ∨ wT g (z + 44) (z + 45) 300 q ∨ wT g (z + 46) (z + 47) 300 q) (As := [.int (300 : Int32)]) (rest := [.ref (z + 46), .ref b]) Y hk2 hl.1 hz hw hS (Or.inr (Nat.le_add_right z _)) (fun q hq => Or.inr (Nat.le_trans (Nat.le_add_right z _) hq)) (kX3_init (b := z + 46) (z := z + 47) (r := 300) (Nat.lt_succ_self _) (by decide)) (fun q h => (Or.inr (Or.inr (Or.inr (Or.inr (Or.inr (Or.inr h))))))) mw_68 mw_32 mw_29 mw_33 rfl (by decide +kernel) rfl rfl ⟨Nat.le_of_ble_eq_true rfl, Nat.le_of_ble_eq_true rfl⟩ ⟨Nat.le_of_ble_eq_true rfl, Nat.le_of_ble_eq_true rfl⟩ rfl rfl (Nat.le_of_ble_eq_true rfl) (oX0_init_11 hbz) dX0_init_85 (fun H locs hw hz hS => ?_)
  replace hz : H.size = z + 48 := hz
  refine W.widen (k := 48) (n := 4528) (Nat.le_of_ble_eq_true rfl) (Nat.le_of_ble_eq_true rfl) ?_
  refine n_putF (T' := fun q => q = (b, .inr (0, [.ref (z), .ref (z + 20), .ref (z + 40), .ref (z + 42), .ref (z + 44), .ref (z + 46)])) ∨ pT g (z) (z + 1) 8 300 q ∨ pT g (z + 20) (z + 21) 8 60 q ∨ wT g (z + 40) (z + 41) 300 q ∨ wT g (z + 42) (z + 43) 300 q ∨ wT g (z + 44) (z + 45) 300 q ∨ wT g (z + 46) (z + 47) 300 q) Y hin hw hS (Or.inl rfl) (Or.inl rfl) rfl inA_X0 tyX0 tyX0_ok nmX0 5 (by decide) mw_66 rfl rfl rfl rfl (Nat.le_of_ble_eq_true rfl) (oX0_init_12 hbz) dX0_init_88 (fun H locs hw hz2 hS => ?_)
  replace hz := hz2.trans hz
  clear hz2
  refine W.widen (k := 48) (n := 4528) (Nat.le_of_ble_eq_true rfl) (Nat.le_of_ble_eq_true rfl) ?_
  exact n_vret Y hr hw hz hS dX0_init_91
theorem oX1_init_1 {g : mG} {b z : Nat} (hbz : b < z) : ∀ q : Nat × va_E, (fun q => q = (b, .inr (1, [.null, .null, .null, .null, .null, .null, .int 0])) ∨ bT g (z) (z + 1) q) q → bT g (z) (z + 1) q ∨ ((fun q => q = (b, .inr (1, [.null, .null, .null, .null, .null, .null, .int 0])) ∨ q = (z, .inr (0, [.null, .null, .null, .null, .null, .null]))) q ∧ q.1 ≠ z) := by
  rintro q (h | h)
  · exact Or.inr ⟨(Or.inl h), (by rw [h]; show (b : Nat) ≠ z; omega)⟩
  · exact Or.inl h
theorem oX1_init_2 {g : mG} {b z : Nat} (hbz : b < z) : ∀ q : Nat × va_E, (fun q => q = (b, .inr (1, [.ref (z), .null, .null, .null, .null, .null, .int 0])) ∨ bT g (z) (z + 1) q) q → q = (b, .inr (1, [.ref (z), .null, .null, .null, .null, .null, .int 0])) ∨ ((fun q => q = (b, .inr (1, [.null, .null, .null, .null, .null, .null, .int 0])) ∨ bT g (z) (z + 1) q) q ∧ q.1 ≠ b) := by
  rintro q (h | h)
  · exact Or.inl h
  · exact Or.inr ⟨(Or.inr h), (by have h9 := bT_in h; omega)⟩
theorem oX1_init_3 {g : mG} {b z : Nat} (hbz : b < z) : ∀ q : Nat × va_E, (fun q => q = (b, .inr (1, [.ref (z), .ref (z + 49), .null, .null, .null, .null, .int 0])) ∨ bT g (z) (z + 1) q ∨ q = (z + 49, .inl (g.2.2.2.2, 10, .inr (.inr (.inr (.inr (fun _ => none))))))) q → q = (b, .inr (1, [.ref (z), .ref (z + 49), .null, .null, .null, .null, .int 0])) ∨ ((fun q => q = (b, .inr (1, [.ref (z), .null, .null, .null, .null, .null, .int 0])) ∨ bT g (z) (z + 1) q ∨ q = (z + 49, .inl (g.2.2.2.2, 10, .inr (.inr (.inr (.inr (fun _ => none))))))) q ∧ q.1 ≠ b) := by
  rintro q (h | h | h)
  · exact Or.inl h
  · exact Or.inr ⟨(Or.inr (Or.inl h)), (by have h9 := bT_in h; omega)⟩
  · exact Or.inr ⟨(Or.inr (Or.inr h)), (by rw [h]; show (z + 49 : Nat) ≠ b; omega)⟩
theorem oX1_init_4 {g : mG} {b z : Nat} (hbz : b < z) : ∀ q : Nat × va_E, (fun q => q = (b, .inr (1, [.ref (z), .ref (z + 49), .null, .null, .null, .null, .int 0])) ∨ bT g (z) (z + 1) q ∨ q = (z + 49, .inl (g.2.2.2.2, 10, .inr (.inr (.inr (.inr (fun _ => none)))))) ∨ wT g (z + 50) (z + 51) 100 q) q → wT g (z + 50) (z + 51) 100 q ∨ ((fun q => q = (b, .inr (1, [.ref (z), .ref (z + 49), .null, .null, .null, .null, .int 0])) ∨ bT g (z) (z + 1) q ∨ q = (z + 49, .inl (g.2.2.2.2, 10, .inr (.inr (.inr (.inr (fun _ => none)))))) ∨ q = (z + 50, .inr (3, [.null, .int 0, .int 0]))) q ∧ q.1 ≠ z + 50) := by
  rintro q (h | h | h | h)
  · exact Or.inr ⟨(Or.inl h), (by rw [h]; show (b : Nat) ≠ z + 50; omega)⟩
  · exact Or.inr ⟨(Or.inr (Or.inl h)), (by have h9 := bT_in h; omega)⟩
  · exact Or.inr ⟨(Or.inr (Or.inr (Or.inl h))), (by rw [h]; show (z + 49 : Nat) ≠ z + 50; omega)⟩
  · exact Or.inl h
theorem oX1_init_5 {g : mG} {b z : Nat} (hbz : b < z) : ∀ q : Nat × va_E, (fun q => q = (b, .inr (1, [.ref (z), .ref (z + 49), .ref (z + 50), .null, .null, .null, .int 0])) ∨ bT g (z) (z + 1) q ∨ q = (z + 49, .inl (g.2.2.2.2, 10, .inr (.inr (.inr (.inr (fun _ => none)))))) ∨ wT g (z + 50) (z + 51) 100 q) q → q = (b, .inr (1, [.ref (z), .ref (z + 49), .ref (z + 50), .null, .null, .null, .int 0])) ∨ ((fun q => q = (b, .inr (1, [.ref (z), .ref (z + 49), .null, .null, .null, .null, .int 0])) ∨ bT g (z) (z + 1) q ∨ q = (z + 49, .inl (g.2.2.2.2, 10, .inr (.inr (.inr (.inr (fun _ => none)))))) ∨ wT g (z + 50) (z + 51) 100 q) q ∧ q.1 ≠ b) := by
  rintro q (h | h | h | h)
  · exact Or.inl h
  · exact Or.inr ⟨(Or.inr (Or.inl h)), (by have h9 := bT_in h; omega)⟩
  · exact Or.inr ⟨(Or.inr (Or.inr (Or.inl h))), (by rw [h]; show (z + 49 : Nat) ≠ b; omega)⟩
  · exact Or.inr ⟨(Or.inr (Or.inr (Or.inr h))), (by have h9 := wT_in h; omega)⟩
theorem oX1_init_6 {g : mG} {b z : Nat} (hbz : b < z) : ∀ q : Nat × va_E, (fun q => q = (b, .inr (1, [.ref (z), .ref (z + 49), .ref (z + 50), .null, .null, .null, .int 0])) ∨ bT g (z) (z + 1) q ∨ q = (z + 49, .inl (g.2.2.2.2, 10, .inr (.inr (.inr (.inr (fun _ => none)))))) ∨ wT g (z + 50) (z + 51) 100 q ∨ wT g (z + 52) (z + 53) 100 q) q → wT g (z + 52) (z + 53) 100 q ∨ ((fun q => q = (b, .inr (1, [.ref (z), .ref (z + 49), .ref (z + 50), .null, .null, .null, .int 0])) ∨ bT g (z) (z + 1) q ∨ q = (z + 49, .inl (g.2.2.2.2, 10, .inr (.inr (.inr (.inr (fun _ => none)))))) ∨ wT g (z + 50) (z + 51) 100 q ∨ q = (z + 52, .inr (3, [.null, .int 0, .int 0]))) q ∧ q.1 ≠ z + 52) := by
  rintro q (h | h | h | h | h)
  · exact Or.inr ⟨(Or.inl h), (by rw [h]; show (b : Nat) ≠ z + 52; omega)⟩
  · exact Or.inr ⟨(Or.inr (Or.inl h)), (by have h9 := bT_in h; omega)⟩
  · exact Or.inr ⟨(Or.inr (Or.inr (Or.inl h))), (by rw [h]; show (z + 49 : Nat) ≠ z + 52; omega)⟩
  · exact Or.inr ⟨(Or.inr (Or.inr (Or.inr (Or.inl h)))), (by have h9 := wT_in h; omega)⟩
  · exact Or.inl h
theorem oX1_init_7 {g : mG} {b z : Nat} (hbz : b < z) : ∀ q : Nat × va_E, (fun q => q = (b, .inr (1, [.ref (z), .ref (z + 49), .ref (z + 50), .ref (z + 52), .null, .null, .int 0])) ∨ bT g (z) (z + 1) q ∨ q = (z + 49, .inl (g.2.2.2.2, 10, .inr (.inr (.inr (.inr (fun _ => none)))))) ∨ wT g (z + 50) (z + 51) 100 q ∨ wT g (z + 52) (z + 53) 100 q) q → q = (b, .inr (1, [.ref (z), .ref (z + 49), .ref (z + 50), .ref (z + 52), .null, .null, .int 0])) ∨ ((fun q => q = (b, .inr (1, [.ref (z), .ref (z + 49), .ref (z + 50), .null, .null, .null, .int 0])) ∨ bT g (z) (z + 1) q ∨ q = (z + 49, .inl (g.2.2.2.2, 10, .inr (.inr (.inr (.inr (fun _ => none)))))) ∨ wT g (z + 50) (z + 51) 100 q ∨ wT g (z + 52) (z + 53) 100 q) q ∧ q.1 ≠ b) := by
  rintro q (h | h | h | h | h)
  · exact Or.inl h
  · exact Or.inr ⟨(Or.inr (Or.inl h)), (by have h9 := bT_in h; omega)⟩
  · exact Or.inr ⟨(Or.inr (Or.inr (Or.inl h))), (by rw [h]; show (z + 49 : Nat) ≠ b; omega)⟩
  · exact Or.inr ⟨(Or.inr (Or.inr (Or.inr (Or.inl h)))), (by have h9 := wT_in h; omega)⟩
  · exact Or.inr ⟨(Or.inr (Or.inr (Or.inr (Or.inr h)))), (by have h9 := wT_in h; omega)⟩
theorem oX1_init_8 {g : mG} {b z : Nat} (hbz : b < z) : ∀ q : Nat × va_E, (fun q => q = (b, .inr (1, [.ref (z), .ref (z + 49), .ref (z + 50), .ref (z + 52), .null, .null, .int 0])) ∨ bT g (z) (z + 1) q ∨ q = (z + 49, .inl (g.2.2.2.2, 10, .inr (.inr (.inr (.inr (fun _ => none)))))) ∨ wT g (z + 50) (z + 51) 100 q ∨ wT g (z + 52) (z + 53) 100 q ∨ wT g (z + 54) (z + 55) 300 q) q → wT g (z + 54) (z + 55) 300 q ∨ ((fun q => q = (b, .inr (1, [.ref (z), .ref (z + 49), .ref (z + 50), .ref (z + 52), .null, .null, .int 0])) ∨ bT g (z) (z + 1) q ∨ q = (z + 49, .inl (g.2.2.2.2, 10, .inr (.inr (.inr (.inr (fun _ => none)))))) ∨ wT g (z + 50) (z + 51) 100 q ∨ wT g (z + 52) (z + 53) 100 q ∨ q = (z + 54, .inr (3, [.null, .int 0, .int 0]))) q ∧ q.1 ≠ z + 54) := by
  rintro q (h | h | h | h | h | h)
  · exact Or.inr ⟨(Or.inl h), (by rw [h]; show (b : Nat) ≠ z + 54; omega)⟩
  · exact Or.inr ⟨(Or.inr (Or.inl h)), (by have h9 := bT_in h; omega)⟩
  · exact Or.inr ⟨(Or.inr (Or.inr (Or.inl h))), (by rw [h]; show (z + 49 : Nat) ≠ z + 54; omega)⟩
  · exact Or.inr ⟨(Or.inr (Or.inr (Or.inr (Or.inl h)))), (by have h9 := wT_in h; omega)⟩
  · exact Or.inr ⟨(Or.inr (Or.inr (Or.inr (Or.inr (Or.inl h))))), (by have h9 := wT_in h; omega)⟩
  · exact Or.inl h
theorem oX1_init_9 {g : mG} {b z : Nat} (hbz : b < z) : ∀ q : Nat × va_E, (fun q => q = (b, .inr (1, [.ref (z), .ref (z + 49), .ref (z + 50), .ref (z + 52), .ref (z + 54), .null, .int 0])) ∨ bT g (z) (z + 1) q ∨ q = (z + 49, .inl (g.2.2.2.2, 10, .inr (.inr (.inr (.inr (fun _ => none)))))) ∨ wT g (z + 50) (z + 51) 100 q ∨ wT g (z + 52) (z + 53) 100 q ∨ wT g (z + 54) (z + 55) 300 q) q → q = (b, .inr (1, [.ref (z), .ref (z + 49), .ref (z + 50), .ref (z + 52), .ref (z + 54), .null, .int 0])) ∨ ((fun q => q = (b, .inr (1, [.ref (z), .ref (z + 49), .ref (z + 50), .ref (z + 52), .null, .null, .int 0])) ∨ bT g (z) (z + 1) q ∨ q = (z + 49, .inl (g.2.2.2.2, 10, .inr (.inr (.inr (.inr (fun _ => none)))))) ∨ wT g (z + 50) (z + 51) 100 q ∨ wT g (z + 52) (z + 53) 100 q ∨ wT g (z + 54) (z + 55) 300 q) q ∧ q.1 ≠ b) := by
  rintro q (h | h | h | h | h | h)
  · exact Or.inl h
  · exact Or.inr ⟨(Or.inr (Or.inl h)), (by have h9 := bT_in h; omega)⟩
  · exact Or.inr ⟨(Or.inr (Or.inr (Or.inl h))), (by rw [h]; show (z + 49 : Nat) ≠ b; omega)⟩
  · exact Or.inr ⟨(Or.inr (Or.inr (Or.inr (Or.inl h)))), (by have h9 := wT_in h; omega)⟩
  · exact Or.inr ⟨(Or.inr (Or.inr (Or.inr (Or.inr (Or.inl h))))), (by have h9 := wT_in h; omega)⟩
  · exact Or.inr ⟨(Or.inr (Or.inr (Or.inr (Or.inr (Or.inr h))))), (by have h9 := wT_in h; omega)⟩
theorem oX1_init_10 {g : mG} {b z : Nat} (hbz : b < z) : ∀ q : Nat × va_E, (fun q => q = (b, .inr (1, [.ref (z), .ref (z + 49), .ref (z + 50), .ref (z + 52), .ref (z + 54), .null, .int 0])) ∨ bT g (z) (z + 1) q ∨ q = (z + 49, .inl (g.2.2.2.2, 10, .inr (.inr (.inr (.inr (fun _ => none)))))) ∨ wT g (z + 50) (z + 51) 100 q ∨ wT g (z + 52) (z + 53) 100 q ∨ wT g (z + 54) (z + 55) 300 q ∨ wT g (z + 56) (z + 57) 300 q) q → wT g (z + 56) (z + 57) 300 q ∨ ((fun q => q = (b, .inr (1, [.ref (z), .ref (z + 49), .ref (z + 50), .ref (z + 52), .ref (z + 54), .null, .int 0])) ∨ bT g (z) (z + 1) q ∨ q = (z + 49, .inl (g.2.2.2.2, 10, .inr (.inr (.inr (.inr (fun _ => none)))))) ∨ wT g (z + 50) (z + 51) 100 q ∨ wT g (z + 52) (z + 53) 100 q ∨ wT g (z + 54) (z + 55) 300 q ∨ q = (z + 56, .inr (3, [.null, .int 0, .int 0]))) q ∧ q.1 ≠ z + 56) := by
  rintro q (h | h | h | h | h | h | h)
  · exact Or.inr ⟨(Or.inl h), (by rw [h]; show (b : Nat) ≠ z + 56; omega)⟩
  · exact Or.inr ⟨(Or.inr (Or.inl h)), (by have h9 := bT_in h; omega)⟩
  · exact Or.inr ⟨(Or.inr (Or.inr (Or.inl h))), (by rw [h]; show (z + 49 : Nat) ≠ z + 56; omega)⟩
  · exact Or.inr ⟨(Or.inr (Or.inr (Or.inr (Or.inl h)))), (by have h9 := wT_in h; omega)⟩
  · exact Or.inr ⟨(Or.inr (Or.inr (Or.inr (Or.inr (Or.inl h))))), (by have h9 := wT_in h; omega)⟩
  · exact Or.inr ⟨(Or.inr (Or.inr (Or.inr (Or.inr (Or.inr (Or.inl h)))))), (by have h9 := wT_in h; omega)⟩
  · exact Or.inl h
theorem oX1_init_11 {g : mG} {b z : Nat} (hbz : b < z) : ∀ q : Nat × va_E, (fun q => q = (b, .inr (1, [.ref (z), .ref (z + 49), .ref (z + 50), .ref (z + 52), .ref (z + 54), .ref (z + 56), .int 0])) ∨ bT g (z) (z + 1) q ∨ q = (z + 49, .inl (g.2.2.2.2, 10, .inr (.inr (.inr (.inr (fun _ => none)))))) ∨ wT g (z + 50) (z + 51) 100 q ∨ wT g (z + 52) (z + 53) 100 q ∨ wT g (z + 54) (z + 55) 300 q ∨ wT g (z + 56) (z + 57) 300 q) q → q = (b, .inr (1, [.ref (z), .ref (z + 49), .ref (z + 50), .ref (z + 52), .ref (z + 54), .ref (z + 56), .int 0])) ∨ ((fun q => q = (b, .inr (1, [.ref (z), .ref (z + 49), .ref (z + 50), .ref (z + 52), .ref (z + 54), .null, .int 0])) ∨ bT g (z) (z + 1) q ∨ q = (z + 49, .inl (g.2.2.2.2, 10, .inr (.inr (.inr (.inr (fun _ => none)))))) ∨ wT g (z + 50) (z + 51) 100 q ∨ wT g (z + 52) (z + 53) 100 q ∨ wT g (z + 54) (z + 55) 300 q ∨ wT g (z + 56) (z + 57) 300 q) q ∧ q.1 ≠ b) := by
  rintro q (h | h | h | h | h | h | h)
  · exact Or.inl h
  · exact Or.inr ⟨(Or.inr (Or.inl h)), (by have h9 := bT_in h; omega)⟩
  · exact Or.inr ⟨(Or.inr (Or.inr (Or.inl h))), (by rw [h]; show (z + 49 : Nat) ≠ b; omega)⟩
  · exact Or.inr ⟨(Or.inr (Or.inr (Or.inr (Or.inl h)))), (by have h9 := wT_in h; omega)⟩
  · exact Or.inr ⟨(Or.inr (Or.inr (Or.inr (Or.inr (Or.inl h))))), (by have h9 := wT_in h; omega)⟩
  · exact Or.inr ⟨(Or.inr (Or.inr (Or.inr (Or.inr (Or.inr (Or.inl h)))))), (by have h9 := wT_in h; omega)⟩
  · exact Or.inr ⟨(Or.inr (Or.inr (Or.inr (Or.inr (Or.inr (Or.inr h)))))), (by have h9 := wT_in h; omega)⟩
theorem oX1_init_12 {g : mG} {b z : Nat} (hbz : b < z) : ∀ q : Nat × va_E, (fun q => q = (b, .inr (1, [.ref (z), .ref (z + 49), .ref (z + 50), .ref (z + 52), .ref (z + 54), .ref (z + 56), .int 0])) ∨ bT g (z) (z + 1) q ∨ q = (z + 49, .inl (g.2.2.2.2, 10, .inr (.inr (.inr (.inr (fun _ => none)))))) ∨ wT g (z + 50) (z + 51) 100 q ∨ wT g (z + 52) (z + 53) 100 q ∨ wT g (z + 54) (z + 55) 300 q ∨ wT g (z + 56) (z + 57) 300 q ∨ pT g (z + 58) (z + 59) 8 100 q) q → pT g (z + 58) (z + 59) 8 100 q ∨ ((fun q => q = (b, .inr (1, [.ref (z), .ref (z + 49), .ref (z + 50), .ref (z + 52), .ref (z + 54), .ref (z + 56), .int 0])) ∨ bT g (z) (z + 1) q ∨ q = (z + 49, .inl (g.2.2.2.2, 10, .inr (.inr (.inr (.inr (fun _ => none)))))) ∨ wT g (z + 50) (z + 51) 100 q ∨ wT g (z + 52) (z + 53) 100 q ∨ wT g (z + 54) (z + 55) 300 q ∨ wT g (z + 56) (z + 57) 300 q ∨ q = (z + 58, .inr (2, [.null, .int 0]))) q ∧ q.1 ≠ z + 58) := by
  rintro q (h | h | h | h | h | h | h | h)
  · exact Or.inr ⟨(Or.inl h), (by rw [h]; show (b : Nat) ≠ z + 58; omega)⟩
  · exact Or.inr ⟨(Or.inr (Or.inl h)), (by have h9 := bT_in h; omega)⟩
  · exact Or.inr ⟨(Or.inr (Or.inr (Or.inl h))), (by rw [h]; show (z + 49 : Nat) ≠ z + 58; omega)⟩
  · exact Or.inr ⟨(Or.inr (Or.inr (Or.inr (Or.inl h)))), (by have h9 := wT_in h; omega)⟩
  · exact Or.inr ⟨(Or.inr (Or.inr (Or.inr (Or.inr (Or.inl h))))), (by have h9 := wT_in h; omega)⟩
  · exact Or.inr ⟨(Or.inr (Or.inr (Or.inr (Or.inr (Or.inr (Or.inl h)))))), (by have h9 := wT_in h; omega)⟩
  · exact Or.inr ⟨(Or.inr (Or.inr (Or.inr (Or.inr (Or.inr (Or.inr (Or.inl h))))))), (by have h9 := wT_in h; omega)⟩
  · exact Or.inl h
theorem oX1_init_13 {g : mG} {b z : Nat} (hbz : b < z) : ∀ q : Nat × va_E, (fun q => q = (b, .inr (1, [.ref (z), .ref (z + 49), .ref (z + 50), .ref (z + 52), .ref (z + 54), .ref (z + 56), .int 0])) ∨ bT g (z) (z + 1) q ∨ q = (z + 49, .inl (g.2.2.2.2, 10, .inr (.inr (.inr (.inr (va_up (fun _ => none) 0 (some (z + 58)))))))) ∨ wT g (z + 50) (z + 51) 100 q ∨ wT g (z + 52) (z + 53) 100 q ∨ wT g (z + 54) (z + 55) 300 q ∨ wT g (z + 56) (z + 57) 300 q ∨ pT g (z + 58) (z + 59) 8 100 q) q → q = (z + 49, .inl (g.2.2.2.2, 10, .inr (.inr (.inr (.inr (va_up (fun _ => none) 0 (some (z + 58)))))))) ∨ ((fun q => q = (b, .inr (1, [.ref (z), .ref (z + 49), .ref (z + 50), .ref (z + 52), .ref (z + 54), .ref (z + 56), .int 0])) ∨ bT g (z) (z + 1) q ∨ q = (z + 49, .inl (g.2.2.2.2, 10, .inr (.inr (.inr (.inr (fun _ => none)))))) ∨ wT g (z + 50) (z + 51) 100 q ∨ wT g (z + 52) (z + 53) 100 q ∨ wT g (z + 54) (z + 55) 300 q ∨ wT g (z + 56) (z + 57) 300 q ∨ pT g (z + 58) (z + 59) 8 100 q) q ∧ q.1 ≠ z + 49) := by
  rintro q (h | h | h | h | h | h | h | h)
  · exact Or.inr ⟨(Or.inl h), (by rw [h]; show (b : Nat) ≠ z + 49; omega)⟩
  · exact Or.inr ⟨(Or.inr (Or.inl h)), (by have h9 := bT_in h; omega)⟩
  · exact Or.inl h
  · exact Or.inr ⟨(Or.inr (Or.inr (Or.inr (Or.inl h)))), (by have h9 := wT_in h; omega)⟩
  · exact Or.inr ⟨(Or.inr (Or.inr (Or.inr (Or.inr (Or.inl h))))), (by have h9 := wT_in h; omega)⟩
  · exact Or.inr ⟨(Or.inr (Or.inr (Or.inr (Or.inr (Or.inr (Or.inl h)))))), (by have h9 := wT_in h; omega)⟩
  · exact Or.inr ⟨(Or.inr (Or.inr (Or.inr (Or.inr (Or.inr (Or.inr (Or.inl h))))))), (by have h9 := wT_in h; omega)⟩
  · exact Or.inr ⟨(Or.inr (Or.inr (Or.inr (Or.inr (Or.inr (Or.inr (Or.inr h))))))), (by have h9 := pT_in h; omega)⟩
theorem oX1_init_14 {g : mG} {b z : Nat} (hbz : b < z) : ∀ q : Nat × va_E, (fun q => q = (b, .inr (1, [.ref (z), .ref (z + 49), .ref (z + 50), .ref (z + 52), .ref (z + 54), .ref (z + 56), .int 0])) ∨ bT g (z) (z + 1) q ∨ q = (z + 49, .inl (g.2.2.2.2, 10, .inr (.inr (.inr (.inr (va_up (fun _ => none) 0 (some (z + 58)))))))) ∨ wT g (z + 50) (z + 51) 100 q ∨ wT g (z + 52) (z + 53) 100 q ∨ wT g (z + 54) (z + 55) 300 q ∨ wT g (z + 56) (z + 57) 300 q ∨ pT g (z + 58) (z + 59) 8 100 q ∨ pT g (z + 78) (z + 79) 8 100 q) q → pT g (z + 78) (z + 79) 8 100 q ∨ ((fun q => q = (b, .inr (1, [.ref (z), .ref (z + 49), .ref (z + 50), .ref (z + 52), .ref (z + 54), .ref (z + 56), .int 0])) ∨ bT g (z) (z + 1) q ∨ q = (z + 49, .inl (g.2.2.2.2, 10, .inr (.inr (.inr (.inr (va_up (fun _ => none) 0 (some (z + 58)))))))) ∨ wT g (z + 50) (z + 51) 100 q ∨ wT g (z + 52) (z + 53) 100 q ∨ wT g (z + 54) (z + 55) 300 q ∨ wT g (z + 56) (z + 57) 300 q ∨ pT g (z + 58) (z + 59) 8 100 q ∨ q = (z + 78, .inr (2, [.null, .int 0]))) q ∧ q.1 ≠ z + 78) := by
  rintro q (h | h | h | h | h | h | h | h | h)
  · exact Or.inr ⟨(Or.inl h), (by rw [h]; show (b : Nat) ≠ z + 78; omega)⟩
  · exact Or.inr ⟨(Or.inr (Or.inl h)), (by have h9 := bT_in h; omega)⟩
  · exact Or.inr ⟨(Or.inr (Or.inr (Or.inl h))), (by rw [h]; show (z + 49 : Nat) ≠ z + 78; omega)⟩
  · exact Or.inr ⟨(Or.inr (Or.inr (Or.inr (Or.inl h)))), (by have h9 := wT_in h; omega)⟩
  · exact Or.inr ⟨(Or.inr (Or.inr (Or.inr (Or.inr (Or.inl h))))), (by have h9 := wT_in h; omega)⟩
  · exact Or.inr ⟨(Or.inr (Or.inr (Or.inr (Or.inr (Or.inr (Or.inl h)))))), (by have h9 := wT_in h; omega)⟩
  · exact Or.inr ⟨(Or.inr (Or.inr (Or.inr (Or.inr (Or.inr (Or.inr (Or.inl h))))))), (by have h9 := wT_in h; omega)⟩
  · exact Or.inr ⟨(Or.inr (Or.inr (Or.inr (Or.inr (Or.inr (Or.inr (Or.inr (Or.inl h)))))))), (by have h9 := pT_in h; omega)⟩
  · exact Or.inl h
theorem oX1_init_15 {g : mG} {b z : Nat} (hbz : b < z) : ∀ q : Nat × va_E, (fun q => q = (b, .inr (1, [.ref (z), .ref (z + 49), .ref (z + 50), .ref (z + 52), .ref (z + 54), .ref (z + 56), .int 0])) ∨ bT g (z) (z + 1) q ∨ q = (z + 49, .inl (g.2.2.2.2, 10, .inr (.inr (.inr (.inr (va_up (va_up (fun _ => none) 0 (some (z + 58))) 1 (some (z + 78)))))))) ∨ wT g (z + 50) (z + 51) 100 q ∨ wT g (z + 52) (z + 53) 100 q ∨ wT g (z + 54) (z + 55) 300 q ∨ wT g (z + 56) (z + 57) 300 q ∨ pT g (z + 58) (z + 59) 8 100 q ∨ pT g (z + 78) (z + 79) 8 100 q) q → q = (z + 49, .inl (g.2.2.2.2, 10, .inr (.inr (.inr (.inr (va_up (va_up (fun _ => none) 0 (some (z + 58))) 1 (some (z + 78)))))))) ∨ ((fun q => q = (b, .inr (1, [.ref (z), .ref (z + 49), .ref (z + 50), .ref (z + 52), .ref (z + 54), .ref (z + 56), .int 0])) ∨ bT g (z) (z + 1) q ∨ q = (z + 49, .inl (g.2.2.2.2, 10, .inr (.inr (.inr (.inr (va_up (fun _ => none) 0 (some (z + 58)))))))) ∨ wT g (z + 50) (z + 51) 100 q ∨ wT g (z + 52) (z + 53) 100 q ∨ wT g (z + 54) (z + 55) 300 q ∨ wT g (z + 56) (z + 57) 300 q ∨ pT g (z + 58) (z + 59) 8 100 q ∨ pT g (z + 78) (z + 79) 8 100 q) q ∧ q.1 ≠ z + 49) := by
  rintro q (h | h | h | h | h | h | h | h | h)
  · exact Or.inr ⟨(Or.inl h), (by rw [h]; show (b : Nat) ≠ z + 49; omega)⟩
  · exact Or.inr ⟨(Or.inr (Or.inl h)), (by have h9 := bT_in h; omega)⟩
  · exact Or.inl h
  · exact Or.inr ⟨(Or.inr (Or.inr (Or.inr (Or.inl h)))), (by have h9 := wT_in h; omega)⟩
  · exact Or.inr ⟨(Or.inr (Or.inr (Or.inr (Or.inr (Or.inl h))))), (by have h9 := wT_in h; omega)⟩
  · exact Or.inr ⟨(Or.inr (Or.inr (Or.inr (Or.inr (Or.inr (Or.inl h)))))), (by have h9 := wT_in h; omega)⟩
  · exact Or.inr ⟨(Or.inr (Or.inr (Or.inr (Or.inr (Or.inr (Or.inr (Or.inl h))))))), (by have h9 := wT_in h; omega)⟩
  · exact Or.inr ⟨(Or.inr (Or.inr (Or.inr (Or.inr (Or.inr (Or.inr (Or.inr (Or.inl h)))))))), (by have h9 := pT_in h; omega)⟩
  · exact Or.inr ⟨(Or.inr (Or.inr (Or.inr (Or.inr (Or.inr (Or.inr (Or.inr (Or.inr h)))))))), (by have h9 := pT_in h; omega)⟩
theorem oX1_init_16 {g : mG} {b z : Nat} (hbz : b < z) : ∀ q : Nat × va_E, (fun q => q = (b, .inr (1, [.ref (z), .ref (z + 49), .ref (z + 50), .ref (z + 52), .ref (z + 54), .ref (z + 56), .int 0])) ∨ bT g (z) (z + 1) q ∨ q = (z + 49, .inl (g.2.2.2.2, 10, .inr (.inr (.inr (.inr (va_up (va_up (fun _ => none) 0 (some (z + 58))) 1 (some (z + 78)))))))) ∨ wT g (z + 50) (z + 51) 100 q ∨ wT g (z + 52) (z + 53) 100 q ∨ wT g (z + 54) (z + 55) 300 q ∨ wT g (z + 56) (z + 57) 300 q ∨ pT g (z + 58) (z + 59) 8 100 q ∨ pT g (z + 78) (z + 79) 8 100 q ∨ pT g (z + 98) (z + 99) 7 100 q) q → pT g (z + 98) (z + 99) 7 100 q ∨ ((fun q => q = (b, .inr (1, [.ref (z), .ref (z + 49), .ref (z + 50), .ref (z + 52), .ref (z + 54), .ref (z + 56), .int 0])) ∨ bT g (z) (z + 1) q ∨ q = (z + 49, .inl (g.2.2.2.2, 10, .inr (.inr (.inr (.inr (va_up (va_up (fun _ => none) 0 (some (z + 58))) 1 (some (z + 78)))))))) ∨ wT g (z + 50) (z + 51) 100 q ∨ wT g (z + 52) (z + 53) 100 q ∨ wT g (z + 54) (z + 55) 300 q ∨ wT g (z + 56) (z + 57) 300 q ∨ pT g (z + 58) (z + 59) 8 100 q ∨ pT g (z + 78) (z + 79) 8 100 q ∨ q = (z + 98, .inr (2, [.null, .int 0]))) q ∧ q.1 ≠ z + 98) := by
  rintro q (h | h | h | h | h | h | h | h | h | h)
  · exact Or.inr ⟨(Or.inl h), (by rw [h]; show (b : Nat) ≠ z + 98; omega)⟩
  · exact Or.inr ⟨(Or.inr (Or.inl h)), (by have h9 := bT_in h; omega)⟩
  · exact Or.inr ⟨(Or.inr (Or.inr (Or.inl h))), (by rw [h]; show (z + 49 : Nat) ≠ z + 98; omega)⟩
  · exact Or.inr ⟨(Or.inr (Or.inr (Or.inr (Or.inl h)))), (by have h9 := wT_in h; omega)⟩
  · exact Or.inr ⟨(Or.inr (Or.inr (Or.inr (Or.inr (Or.inl h))))), (by have h9 := wT_in h; omega)⟩
  · exact Or.inr ⟨(Or.inr (Or.inr (Or.inr (Or.inr (Or.inr (Or.inl h)))))), (by have h9 := wT_in h; omega)⟩
  · exact Or.inr ⟨(Or.inr (Or.inr (Or.inr (Or.inr (Or.inr (Or.inr (Or.inl h))))))), (by have h9 := wT_in h; omega)⟩
  · exact Or.inr ⟨(Or.inr (Or.inr (Or.inr (Or.inr (Or.inr (Or.inr (Or.inr (Or.inl h)))))))), (by have h9 := pT_in h; omega)⟩
  · exact Or.inr ⟨(Or.inr (Or.inr (Or.inr (Or.inr (Or.inr (Or.inr (Or.inr (Or.inr (Or.inl h))))))))), (by have h9 := pT_in h; omega)⟩
  · exact Or.inl h
theorem oX1_init_17 {g : mG} {b z : Nat} (hbz : b < z) : ∀ q : Nat × va_E, (fun q => q = (b, .inr (1, [.ref (z), .ref (z + 49), .ref (z + 50), .ref (z + 52), .ref (z + 54), .ref (z + 56), .int 0])) ∨ bT g (z) (z + 1) q ∨ q = (z + 49, .inl (g.2.2.2.2, 10, .inr (.inr (.inr (.inr (va_up (va_up (va_up (fun _ => none) 0 (some (z + 58))) 1 (some (z + 78))) 2 (some (z + 98)))))))) ∨ wT g (z + 50) (z + 51) 100 q ∨ wT g (z + 52) (z + 53) 100 q ∨ wT g (z + 54) (z + 55) 300 q ∨ wT g (z + 56) (z + 57) 300 q ∨ pT g (z + 58) (z + 59) 8 100 q ∨ pT g (z + 78) (z + 79) 8 100 q ∨ pT g (z + 98) (z + 99) 7 100 q) q → q = (z + 49, .inl (g.2.2.2.2, 10, .inr (.inr (.inr (.inr (va_up (va_up (va_up (fun _ => none) 0 (some (z + 58))) 1 (some (z + 78))) 2 (some (z + 98)))))))) ∨ ((fun q => q = (b, .inr (1, [.ref (z), .ref (z + 49), .ref (z + 50), .ref (z + 52), .ref (z + 54), .ref (z + 56), .int 0])) ∨ bT g (z) (z + 1) q ∨ q = (z + 49, .inl (g.2.2.2.2, 10, .inr (.inr (.inr (.inr (va_up (va_up (fun _ => none) 0 (some (z + 58))) 1 (some (z + 78)))))))) ∨ wT g (z + 50) (z + 51) 100 q ∨ wT g (z + 52) (z + 53) 100 q ∨ wT g (z + 54) (z + 55) 300 q ∨ wT g (z + 56) (z + 57) 300 q ∨ pT g (z + 58) (z + 59) 8 100 q ∨ pT g (z + 78) (z + 79) 8 100 q ∨ pT g (z + 98) (z + 99) 7 100 q) q ∧ q.1 ≠ z + 49) := by
  rintro q (h | h | h | h | h | h | h | h | h | h)
  · exact Or.inr ⟨(Or.inl h), (by rw [h]; show (b : Nat) ≠ z + 49; omega)⟩
  · exact Or.inr ⟨(Or.inr (Or.inl h)), (by have h9 := bT_in h; omega)⟩
  · exact Or.inl h
  · exact Or.inr ⟨(Or.inr (Or.inr (Or.inr (Or.inl h)))), (by have h9 := wT_in h; omega)⟩
  · exact Or.inr ⟨(Or.inr (Or.inr (Or.inr (Or.inr (Or.inl h))))), (by have h9 := wT_in h; omega)⟩
  · exact Or.inr ⟨(Or.inr (Or.inr (Or.inr (Or.inr (Or.inr (Or.inl h)))))), (by have h9 := wT_in h; omega)⟩
  · exact Or.inr ⟨(Or.inr (Or.inr (Or.inr (Or.inr (Or.inr (Or.inr (Or.inl h))))))), (by have h9 := wT_in h; omega)⟩
  · exact Or.inr ⟨(Or.inr (Or.inr (Or.inr (Or.inr (Or.inr (Or.inr (Or.inr (Or.inl h)))))))), (by have h9 := pT_in h; omega)⟩
  · exact Or.inr ⟨(Or.inr (Or.inr (Or.inr (Or.inr (Or.inr (Or.inr (Or.inr (Or.inr (Or.inl h))))))))), (by have h9 := pT_in h; omega)⟩
  · exact Or.inr ⟨(Or.inr (Or.inr (Or.inr (Or.inr (Or.inr (Or.inr (Or.inr (Or.inr (Or.inr h))))))))), (by have h9 := pT_in h; omega)⟩
theorem oX1_init_18 {g : mG} {b z : Nat} (hbz : b < z) : ∀ q : Nat × va_E, (fun q => q = (b, .inr (1, [.ref (z), .ref (z + 49), .ref (z + 50), .ref (z + 52), .ref (z + 54), .ref (z + 56), .int 0])) ∨ bT g (z) (z + 1) q ∨ q = (z + 49, .inl (g.2.2.2.2, 10, .inr (.inr (.inr (.inr (va_up (va_up (va_up (fun _ => none) 0 (some (z + 58))) 1 (some (z + 78))) 2 (some (z + 98)))))))) ∨ wT g (z + 50) (z + 51) 100 q ∨ wT g (z + 52) (z + 53) 100 q ∨ wT g (z + 54) (z + 55) 300 q ∨ wT g (z + 56) (z + 57) 300 q ∨ pT g (z + 58) (z + 59) 8 100 q ∨ pT g (z + 78) (z + 79) 8 100 q ∨ pT g (z + 98) (z + 99) 7 100 q ∨ pT g (z + 116) (z + 117) 6 100 q) q → pT g (z + 116) (z + 117) 6 100 q ∨ ((fun q => q = (b, .inr (1, [.ref (z), .ref (z + 49), .ref (z + 50), .ref (z + 52), .ref (z + 54), .ref (z + 56), .int 0])) ∨ bT g (z) (z + 1) q ∨ q = (z + 49, .inl (g.2.2.2.2, 10, .inr (.inr (.inr (.inr (va_up (va_up (va_up (fun _ => none) 0 (some (z + 58))) 1 (some (z + 78))) 2 (some (z + 98)))))))) ∨ wT g (z + 50) (z + 51) 100 q ∨ wT g (z + 52) (z + 53) 100 q ∨ wT g (z + 54) (z + 55) 300 q ∨ wT g (z + 56) (z + 57) 300 q ∨ pT g (z + 58) (z + 59) 8 100 q ∨ pT g (z + 78) (z + 79) 8 100 q ∨ pT g (z + 98) (z + 99) 7 100 q ∨ q = (z + 116, .inr (2, [.null, .int 0]))) q ∧ q.1 ≠ z + 116) := by
  rintro q (h | h | h | h | h | h | h | h | h | h | h)
  · exact Or.inr ⟨(Or.inl h), (by rw [h]; show (b : Nat) ≠ z + 116; omega)⟩
  · exact Or.inr ⟨(Or.inr (Or.inl h)), (by have h9 := bT_in h; omega)⟩
  · exact Or.inr ⟨(Or.inr (Or.inr (Or.inl h))), (by rw [h]; show (z + 49 : Nat) ≠ z + 116; omega)⟩
  · exact Or.inr ⟨(Or.inr (Or.inr (Or.inr (Or.inl h)))), (by have h9 := wT_in h; omega)⟩
  · exact Or.inr ⟨(Or.inr (Or.inr (Or.inr (Or.inr (Or.inl h))))), (by have h9 := wT_in h; omega)⟩
  · exact Or.inr ⟨(Or.inr (Or.inr (Or.inr (Or.inr (Or.inr (Or.inl h)))))), (by have h9 := wT_in h; omega)⟩
  · exact Or.inr ⟨(Or.inr (Or.inr (Or.inr (Or.inr (Or.inr (Or.inr (Or.inl h))))))), (by have h9 := wT_in h; omega)⟩
  · exact Or.inr ⟨(Or.inr (Or.inr (Or.inr (Or.inr (Or.inr (Or.inr (Or.inr (Or.inl h)))))))), (by have h9 := pT_in h; omega)⟩
  · exact Or.inr ⟨(Or.inr (Or.inr (Or.inr (Or.inr (Or.inr (Or.inr (Or.inr (Or.inr (Or.inl h))))))))), (by have h9 := pT_in h; omega)⟩
  · exact Or.inr ⟨(Or.inr (Or.inr (Or.inr (Or.inr (Or.inr (Or.inr (Or.inr (Or.inr (Or.inr (Or.inl h)))))))))), (by have h9 := pT_in h; omega)⟩
  · exact Or.inl h
theorem oX1_init_19 {g : mG} {b z : Nat} (hbz : b < z) : ∀ q : Nat × va_E, (fun q => q = (b, .inr (1, [.ref (z), .ref (z + 49), .ref (z + 50), .ref (z + 52), .ref (z + 54), .ref (z + 56), .int 0])) ∨ bT g (z) (z + 1) q ∨ q = (z + 49, .inl (g.2.2.2.2, 10, .inr (.inr (.inr (.inr (va_up (va_up (va_up (va_up (fun _ => none) 0 (some (z + 58))) 1 (some (z + 78))) 2 (some (z + 98))) 3 (some (z + 116)))))))) ∨ wT g (z + 50) (z + 51) 100 q ∨ wT g (z + 52) (z + 53) 100 q ∨ wT g (z + 54) (z + 55) 300 q ∨ wT g (z + 56) (z + 57) 300 q ∨ pT g (z + 58) (z + 59) 8 100 q ∨ pT g (z + 78) (z + 79) 8 100 q ∨ pT g (z + 98) (z + 99) 7 100 q ∨ pT g (z + 116) (z + 117) 6 100 q) q → q = (z + 49, .inl (g.2.2.2.2, 10, .inr (.inr (.inr (.inr (va_up (va_up (va_up (va_up (fun _ => none) 0 (some (z + 58))) 1 (some (z + 78))) 2 (some (z + 98))) 3 (some (z + 116)))))))) ∨ ((fun q => q = (b, .inr (1, [.ref (z), .ref (z + 49), .ref (z + 50), .ref (z + 52), .ref (z + 54), .ref (z + 56), .int 0])) ∨ bT g (z) (z + 1) q ∨ q = (z + 49, .inl (g.2.2.2.2, 10, .inr (.inr (.inr (.inr (va_up (va_up (va_up (fun _ => none) 0 (some (z + 58))) 1 (some (z + 78))) 2 (some (z + 98)))))))) ∨ wT g (z + 50) (z + 51) 100 q ∨ wT g (z + 52) (z + 53) 100 q ∨ wT g (z + 54) (z + 55) 300 q ∨ wT g (z + 56) (z + 57) 300 q ∨ pT g (z + 58) (z + 59) 8 100 q ∨ pT g (z + 78) (z + 79) 8 100 q ∨ pT g (z + 98) (z + 99) 7 100 q ∨ pT g (z + 116) (z + 117) 6 100 q) q ∧ q.1 ≠ z + 49) := by
  rintro q (h | h | h | h | h | h | h | h | h | h | h)
  · exact Or.inr ⟨(Or.inl h), (by rw [h]; show (b : Nat) ≠ z + 49; omega)⟩
  · exact Or.inr ⟨(Or.inr (Or.inl h)), (by have h9 := bT_in h; omega)⟩
  · exact Or.inl h
  · exact Or.inr ⟨(Or.inr (Or.inr (Or.inr (Or.inl h)))), (by have h9 := wT_in h; omega)⟩
  · exact Or.inr ⟨(Or.inr (Or.inr (Or.inr (Or.inr (Or.inl h))))), (by have h9 := wT_in h; omega)⟩
  · exact Or.inr ⟨(Or.inr (Or.inr (Or.inr (Or.inr (Or.inr (Or.inl h)))))), (by have h9 := wT_in h; omega)⟩
  · exact Or.inr ⟨(Or.inr (Or.inr (Or.inr (Or.inr (Or.inr (Or.inr (Or.inl h))))))), (by have h9 := wT_in h; omega)⟩
  · exact Or.inr ⟨(Or.inr (Or.inr (Or.inr (Or.inr (Or.inr (Or.inr (Or.inr (Or.inl h)))))))), (by have h9 := pT_in h; omega)⟩
  · exact Or.inr ⟨(Or.inr (Or.inr (Or.inr (Or.inr (Or.inr (Or.inr (Or.inr (Or.inr (Or.inl h))))))))), (by have h9 := pT_in h; omega)⟩
  · exact Or.inr ⟨(Or.inr (Or.inr (Or.inr (Or.inr (Or.inr (Or.inr (Or.inr (Or.inr (Or.inr (Or.inl h)))))))))), (by have h9 := pT_in h; omega)⟩
  · exact Or.inr ⟨(Or.inr (Or.inr (Or.inr (Or.inr (Or.inr (Or.inr (Or.inr (Or.inr (Or.inr (Or.inr h)))))))))), (by have h9 := pT_in h; omega)⟩
theorem oX1_init_20 {g : mG} {b z : Nat} (hbz : b < z) : ∀ q : Nat × va_E, (fun q => q = (b, .inr (1, [.ref (z), .ref (z + 49), .ref (z + 50), .ref (z + 52), .ref (z + 54), .ref (z + 56), .int 0])) ∨ bT g (z) (z + 1) q ∨ q = (z + 49, .inl (g.2.2.2.2, 10, .inr (.inr (.inr (.inr (va_up (va_up (va_up (va_up (fun _ => none) 0 (some (z + 58))) 1 (some (z + 78))) 2 (some (z + 98))) 3 (some (z + 116)))))))) ∨ wT g (z + 50) (z + 51) 100 q ∨ wT g (z + 52) (z + 53) 100 q ∨ wT g (z + 54) (z + 55) 300 q ∨ wT g (z + 56) (z + 57) 300 q ∨ pT g (z + 58) (z + 59) 8 100 q ∨ pT g (z + 78) (z + 79) 8 100 q ∨ pT g (z + 98) (z + 99) 7 100 q ∨ pT g (z + 116) (z + 117) 6 100 q ∨ pT g (z + 132) (z + 133) 5 100 q) q → pT g (z + 132) (z + 133) 5 100 q ∨ ((fun q => q = (b, .inr (1, [.ref (z), .ref (z + 49), .ref (z + 50), .ref (z + 52), .ref (z + 54), .ref (z + 56), .int 0])) ∨ bT g (z) (z + 1) q ∨ q = (z + 49, .inl (g.2.2.2.2, 10, .inr (.inr (.inr (.inr (va_up (va_up (va_up (va_up (fun _ => none) 0 (some (z + 58))) 1 (some (z + 78))) 2 (some (z + 98))) 3 (some (z + 116)))))))) ∨ wT g (z + 50) (z + 51) 100 q ∨ wT g (z + 52) (z + 53) 100 q ∨ wT g (z + 54) (z + 55) 300 q ∨ wT g (z + 56) (z + 57) 300 q ∨ pT g (z + 58) (z + 59) 8 100 q ∨ pT g (z + 78) (z + 79) 8 100 q ∨ pT g (z + 98) (z + 99) 7 100 q ∨ pT g (z + 116) (z + 117) 6 100 q ∨ q = (z + 132, .inr (2, [.null, .int 0]))) q ∧ q.1 ≠ z + 132) := by
  rintro q (h | h | h | h | h | h | h | h | h | h | h | h)
  · exact Or.inr ⟨(Or.inl h), (by rw [h]; show (b : Nat) ≠ z + 132; omega)⟩
  · exact Or.inr ⟨(Or.inr (Or.inl h)), (by have h9 := bT_in h; omega)⟩
  · exact Or.inr ⟨(Or.inr (Or.inr (Or.inl h))), (by rw [h]; show (z + 49 : Nat) ≠ z + 132; omega)⟩
  · exact Or.inr ⟨(Or.inr (Or.inr (Or.inr (Or.inl h)))), (by have h9 := wT_in h; omega)⟩
  · exact Or.inr ⟨(Or.inr (Or.inr (Or.inr (Or.inr (Or.inl h))))), (by have h9 := wT_in h; omega)⟩
  · exact Or.inr ⟨(Or.inr (Or.inr (Or.inr (Or.inr (Or.inr (Or.inl h)))))), (by have h9 := wT_in h; omega)⟩
  · exact Or.inr ⟨(Or.inr (Or.inr (Or.inr (Or.inr (Or.inr (Or.inr (Or.inl h))))))), (by have h9 := wT_in h; omega)⟩
  · exact Or.inr ⟨(Or.inr (Or.inr (Or.inr (Or.inr (Or.inr (Or.inr (Or.inr (Or.inl h)))))))), (by have h9 := pT_in h; omega)⟩
  · exact Or.inr ⟨(Or.inr (Or.inr (Or.inr (Or.inr (Or.inr (Or.inr (Or.inr (Or.inr (Or.inl h))))))))), (by have h9 := pT_in h; omega)⟩
  · exact Or.inr ⟨(Or.inr (Or.inr (Or.inr (Or.inr (Or.inr (Or.inr (Or.inr (Or.inr (Or.inr (Or.inl h)))))))))), (by have h9 := pT_in h; omega)⟩
  · exact Or.inr ⟨(Or.inr (Or.inr (Or.inr (Or.inr (Or.inr (Or.inr (Or.inr (Or.inr (Or.inr (Or.inr (Or.inl h))))))))))), (by have h9 := pT_in h; omega)⟩
  · exact Or.inl h
theorem oX1_init_21 {g : mG} {b z : Nat} (hbz : b < z) : ∀ q : Nat × va_E, (fun q => q = (b, .inr (1, [.ref (z), .ref (z + 49), .ref (z + 50), .ref (z + 52), .ref (z + 54), .ref (z + 56), .int 0])) ∨ bT g (z) (z + 1) q ∨ q = (z + 49, .inl (g.2.2.2.2, 10, .inr (.inr (.inr (.inr (va_up (va_up (va_up (va_up (va_up (fun _ => none) 0 (some (z + 58))) 1 (some (z + 78))) 2 (some (z + 98))) 3 (some (z + 116))) 4 (some (z + 132)))))))) ∨ wT g (z + 50) (z + 51) 100 q ∨ wT g (z + 52) (z + 53) 100 q ∨ wT g (z + 54) (z + 55) 300 q ∨ wT g (z + 56) (z + 57) 300 q ∨ pT g (z + 58) (z + 59) 8 100 q ∨ pT g (z + 78) (z + 79) 8 100 q ∨ pT g (z + 98) (z + 99) 7 100 q ∨ pT g (z + 116) (z + 117) 6 100 q ∨ pT g (z + 132) (z + 133) 5 100 q) q → q = (z + 49, .inl (g.2.2.2.2, 10, .inr (.inr (.inr (.inr (va_up (va_up (va_up (va_up (va_up (fun _ => none) 0 (some (z + 58))) 1 (some (z + 78))) 2 (some (z + 98))) 3 (some (z + 116))) 4 (some (z + 132)))))))) ∨ ((fun q => q = (b, .inr (1, [.ref (z), .ref (z + 49), .ref (z + 50), .ref (z + 52), .ref (z + 54), .ref (z + 56), .int 0])) ∨ bT g (z) (z + 1) q ∨ q = (z + 49, .inl (g.2.2.2.2, 10, .inr (.inr (.inr (.inr (va_up (va_up (va_up (va_up (fun _ => none) 0 (some (z + 58))) 1 (some (z + 78))) 2 (some (z + 98))) 3 (some (z + 116)))))))) ∨ wT g (z + 50) (z + 51) 100 q ∨ wT g (z + 52) (z + 53) 100 q ∨ wT g (z + 54) (z + 55) 300 q ∨ wT g (z + 56) (z + 57) 300 q ∨ pT g (z + 58) (z + 59) 8 100 q ∨ pT g (z + 78) (z + 79) 8 100 q ∨ pT g (z + 98) (z + 99) 7 100 q ∨ pT g (z + 116) (z + 117) 6 100 q ∨ pT g (z + 132) (z + 133) 5 100 q) q ∧ q.1 ≠ z + 49) := by
  rintro q (h | h | h | h | h | h | h | h | h | h | h | h)
  · exact Or.inr ⟨(Or.inl h), (by rw [h]; show (b : Nat) ≠ z + 49; omega)⟩
  · exact Or.inr ⟨(Or.inr (Or.inl h)), (by have h9 := bT_in h; omega)⟩
  · exact Or.inl h
  · exact Or.inr ⟨(Or.inr (Or.inr (Or.inr (Or.inl h)))), (by have h9 := wT_in h; omega)⟩
  · exact Or.inr ⟨(Or.inr (Or.inr (Or.inr (Or.inr (Or.inl h))))), (by have h9 := wT_in h; omega)⟩
  · exact Or.inr ⟨(Or.inr (Or.inr (Or.inr (Or.inr (Or.inr (Or.inl h)))))), (by have h9 := wT_in h; omega)⟩
  · exact Or.inr ⟨(Or.inr (Or.inr (Or.inr (Or.inr (Or.inr (Or.inr (Or.inl h))))))), (by have h9 := wT_in h; omega)⟩
  · exact Or.inr ⟨(Or.inr (Or.inr (Or.inr (Or.inr (Or.inr (Or.inr (Or.inr (Or.inl h)))))))), (by have h9 := pT_in h; omega)⟩
  · exact Or.inr ⟨(Or.inr (Or.inr (Or.inr (Or.inr (Or.inr (Or.inr (Or.inr (Or.inr (Or.inl h))))))))), (by have h9 := pT_in h; omega)⟩
  · exact Or.inr ⟨(Or.inr (Or.inr (Or.inr (Or.inr (Or.inr (Or.inr (Or.inr (Or.inr (Or.inr (Or.inl h)))))))))), (by have h9 := pT_in h; omega)⟩
  · exact Or.inr ⟨(Or.inr (Or.inr (Or.inr (Or.inr (Or.inr (Or.inr (Or.inr (Or.inr (Or.inr (Or.inr (Or.inl h))))))))))), (by have h9 := pT_in h; omega)⟩
  · exact Or.inr ⟨(Or.inr (Or.inr (Or.inr (Or.inr (Or.inr (Or.inr (Or.inr (Or.inr (Or.inr (Or.inr (Or.inr h))))))))))), (by have h9 := pT_in h; omega)⟩
theorem oX1_init_22 {g : mG} {b z : Nat} (hbz : b < z) : ∀ q : Nat × va_E, (fun q => q = (b, .inr (1, [.ref (z), .ref (z + 49), .ref (z + 50), .ref (z + 52), .ref (z + 54), .ref (z + 56), .int 0])) ∨ bT g (z) (z + 1) q ∨ q = (z + 49, .inl (g.2.2.2.2, 10, .inr (.inr (.inr (.inr (va_up (va_up (va_up (va_up (va_up (fun _ => none) 0 (some (z + 58))) 1 (some (z + 78))) 2 (some (z + 98))) 3 (some (z + 116))) 4 (some (z + 132)))))))) ∨ wT g (z + 50) (z + 51) 100 q ∨ wT g (z + 52) (z + 53) 100 q ∨ wT g (z + 54) (z + 55) 300 q ∨ wT g (z + 56) (z + 57) 300 q ∨ pT g (z + 58) (z + 59) 8 100 q ∨ pT g (z + 78) (z + 79) 8 100 q ∨ pT g (z + 98) (z + 99) 7 100 q ∨ pT g (z + 116) (z + 117) 6 100 q ∨ pT g (z + 132) (z + 133) 5 100 q ∨ pT g (z + 146) (z + 147) 4 100 q) q → pT g (z + 146) (z + 147) 4 100 q ∨ ((fun q => q = (b, .inr (1, [.ref (z), .ref (z + 49), .ref (z + 50), .ref (z + 52), .ref (z + 54), .ref (z + 56), .int 0])) ∨ bT g (z) (z + 1) q ∨ q = (z + 49, .inl (g.2.2.2.2, 10, .inr (.inr (.inr (.inr (va_up (va_up (va_up (va_up (va_up (fun _ => none) 0 (some (z + 58))) 1 (some (z + 78))) 2 (some (z + 98))) 3 (some (z + 116))) 4 (some (z + 132)))))))) ∨ wT g (z + 50) (z + 51) 100 q ∨ wT g (z + 52) (z + 53) 100 q ∨ wT g (z + 54) (z + 55) 300 q ∨ wT g (z + 56) (z + 57) 300 q ∨ pT g (z + 58) (z + 59) 8 100 q ∨ pT g (z + 78) (z + 79) 8 100 q ∨ pT g (z + 98) (z + 99) 7 100 q ∨ pT g (z + 116) (z + 117) 6 100 q ∨ pT g (z + 132) (z + 133) 5 100 q ∨ q = (z + 146, .inr (2, [.null, .int 0]))) q ∧ q.1 ≠ z + 146) := by
  rintro q (h | h | h | h | h | h | h | h | h | h | h | h | h)
  · exact Or.inr ⟨(Or.inl h), (by rw [h]; show (b : Nat) ≠ z + 146; omega)⟩
  · exact Or.inr ⟨(Or.inr (Or.inl h)), (by have h9 := bT_in h; omega)⟩
  · exact Or.inr ⟨(Or.inr (Or.inr (Or.inl h))), (by rw [h]; show (z + 49 : Nat) ≠ z + 146; omega)⟩
  · exact Or.inr ⟨(Or.inr (Or.inr (Or.inr (Or.inl h)))), (by have h9 := wT_in h; omega)⟩
  · exact Or.inr ⟨(Or.inr (Or.inr (Or.inr (Or.inr (Or.inl h))))), (by have h9 := wT_in h; omega)⟩
  · exact Or.inr ⟨(Or.inr (Or.inr (Or.inr (Or.inr (Or.inr (Or.inl h)))))), (by have h9 := wT_in h; omega)⟩
  · exact Or.inr ⟨(Or.inr (Or.inr (Or.inr (Or.inr (Or.inr (Or.inr (Or.inl h))))))), (by have h9 := wT_in h; omega)⟩
  · exact Or.inr ⟨(Or.inr (Or.inr (Or.inr (Or.inr (Or.inr (Or.inr (Or.inr (Or.inl h)))))))), (by have h9 := pT_in h; omega)⟩
  · exact Or.inr ⟨(Or.inr (Or.inr (Or.inr (Or.inr (Or.inr (Or.inr (Or.inr (Or.inr (Or.inl h))))))))), (by have h9 := pT_in h; omega)⟩
  · exact Or.inr ⟨(Or.inr (Or.inr (Or.inr (Or.inr (Or.inr (Or.inr (Or.inr (Or.inr (Or.inr (Or.inl h)))))))))), (by have h9 := pT_in h; omega)⟩
  · exact Or.inr ⟨(Or.inr (Or.inr (Or.inr (Or.inr (Or.inr (Or.inr (Or.inr (Or.inr (Or.inr (Or.inr (Or.inl h))))))))))), (by have h9 := pT_in h; omega)⟩
  · exact Or.inr ⟨(Or.inr (Or.inr (Or.inr (Or.inr (Or.inr (Or.inr (Or.inr (Or.inr (Or.inr (Or.inr (Or.inr (Or.inl h)))))))))))), (by have h9 := pT_in h; omega)⟩
  · exact Or.inl h
theorem oX1_init_23 {g : mG} {b z : Nat} (hbz : b < z) : ∀ q : Nat × va_E, (fun q => q = (b, .inr (1, [.ref (z), .ref (z + 49), .ref (z + 50), .ref (z + 52), .ref (z + 54), .ref (z + 56), .int 0])) ∨ bT g (z) (z + 1) q ∨ q = (z + 49, .inl (g.2.2.2.2, 10, .inr (.inr (.inr (.inr (va_up (va_up (va_up (va_up (va_up (va_up (fun _ => none) 0 (some (z + 58))) 1 (some (z + 78))) 2 (some (z + 98))) 3 (some (z + 116))) 4 (some (z + 132))) 5 (some (z + 146)))))))) ∨ wT g (z + 50) (z + 51) 100 q ∨ wT g (z + 52) (z + 53) 100 q ∨ wT g (z + 54) (z + 55) 300 q ∨ wT g (z + 56) (z + 57) 300 q ∨ pT g (z + 58) (z + 59) 8 100 q ∨ pT g (z + 78) (z + 79) 8 100 q ∨ pT g (z + 98) (z + 99) 7 100 q ∨ pT g (z + 116) (z + 117) 6 100 q ∨ pT g (z + 132) (z + 133) 5 100 q ∨ pT g (z + 146) (z + 147) 4 100 q) q → q = (z + 49, .inl (g.2.2.2.2, 10, .inr (.inr (.inr (.inr (va_up (va_up (va_up (va_up (va_up (va_up (fun _ => none) 0 (some (z + 58))) 1 (some (z + 78))) 2 (some (z + 98))) 3 (some (z + 116))) 4 (some (z + 132))) 5 (some (z + 146)))))))) ∨ ((fun q => q = (b, .inr (1, [.ref (z), .ref (z + 49), .ref (z + 50), .ref (z + 52), .ref (z + 54), .ref (z + 56), .int 0])) ∨ bT g (z) (z + 1) q ∨ q = (z + 49, .inl (g.2.2.2.2, 10, .inr (.inr (.inr (.inr (va_up (va_up (va_up (va_up (va_up (fun _ => none) 0 (some (z + 58))) 1 (some (z + 78))) 2 (some (z + 98))) 3 (some (z + 116))) 4 (some (z + 132)))))))) ∨ wT g (z + 50) (z + 51) 100 q ∨ wT g (z + 52) (z + 53) 100 q ∨ wT g (z + 54) (z + 55) 300 q ∨ wT g (z + 56) (z + 57) 300 q ∨ pT g (z + 58) (z + 59) 8 100 q ∨ pT g (z + 78) (z + 79) 8 100 q ∨ pT g (z + 98) (z + 99) 7 100 q ∨ pT g (z + 116) (z + 117) 6 100 q ∨ pT g (z + 132) (z + 133) 5 100 q ∨ pT g (z + 146) (z + 147) 4 100 q) q ∧ q.1 ≠ z + 49) := by
  rintro q (h | h | h | h | h | h | h | h | h | h | h | h | h)
  · exact Or.inr ⟨(Or.inl h), (by rw [h]; show (b : Nat) ≠ z + 49; omega)⟩
  · exact Or.inr ⟨(Or.inr (Or.inl h)), (by have h9 := bT_in h; omega)⟩
  · exact Or.inl h
  · exact Or.inr ⟨(Or.inr (Or.inr (Or.inr (Or.inl h)))), (by have h9 := wT_in h; omega)⟩
  · exact Or.inr ⟨(Or.inr (Or.inr (Or.inr (Or.inr (Or.inl h))))), (by have h9 := wT_in h; omega)⟩
  · exact Or.inr ⟨(Or.inr (Or.inr (Or.inr (Or.inr (Or.inr (Or.inl h)))))), (by have h9 := wT_in h; omega)⟩
  · exact Or.inr ⟨(Or.inr (Or.inr (Or.inr (Or.inr (Or.inr (Or.inr (Or.inl h))))))), (by have h9 := wT_in h; omega)⟩
  · exact Or.inr ⟨(Or.inr (Or.inr (Or.inr (Or.inr (Or.inr (Or.inr (Or.inr (Or.inl h)))))))), (by have h9 := pT_in h; omega)⟩
  · exact Or.inr ⟨(Or.inr (Or.inr (Or.inr (Or.inr (Or.inr (Or.inr (Or.inr (Or.inr (Or.inl h))))))))), (by have h9 := pT_in h; omega)⟩
  · exact Or.inr ⟨(Or.inr (Or.inr (Or.inr (Or.inr (Or.inr (Or.inr (Or.inr (Or.inr (Or.inr (Or.inl h)))))))))), (by have h9 := pT_in h; omega)⟩
  · exact Or.inr ⟨(Or.inr (Or.inr (Or.inr (Or.inr (Or.inr (Or.inr (Or.inr (Or.inr (Or.inr (Or.inr (Or.inl h))))))))))), (by have h9 := pT_in h; omega)⟩
  · exact Or.inr ⟨(Or.inr (Or.inr (Or.inr (Or.inr (Or.inr (Or.inr (Or.inr (Or.inr (Or.inr (Or.inr (Or.inr (Or.inl h)))))))))))), (by have h9 := pT_in h; omega)⟩
  · exact Or.inr ⟨(Or.inr (Or.inr (Or.inr (Or.inr (Or.inr (Or.inr (Or.inr (Or.inr (Or.inr (Or.inr (Or.inr (Or.inr h)))))))))))), (by have h9 := pT_in h; omega)⟩
theorem oX1_init_24 {g : mG} {b z : Nat} (hbz : b < z) : ∀ q : Nat × va_E, (fun q => q = (b, .inr (1, [.ref (z), .ref (z + 49), .ref (z + 50), .ref (z + 52), .ref (z + 54), .ref (z + 56), .int 0])) ∨ bT g (z) (z + 1) q ∨ q = (z + 49, .inl (g.2.2.2.2, 10, .inr (.inr (.inr (.inr (va_up (va_up (va_up (va_up (va_up (va_up (fun _ => none) 0 (some (z + 58))) 1 (some (z + 78))) 2 (some (z + 98))) 3 (some (z + 116))) 4 (some (z + 132))) 5 (some (z + 146)))))))) ∨ wT g (z + 50) (z + 51) 100 q ∨ wT g (z + 52) (z + 53) 100 q ∨ wT g (z + 54) (z + 55) 300 q ∨ wT g (z + 56) (z + 57) 300 q ∨ pT g (z + 58) (z + 59) 8 100 q ∨ pT g (z + 78) (z + 79) 8 100 q ∨ pT g (z + 98) (z + 99) 7 100 q ∨ pT g (z + 116) (z + 117) 6 100 q ∨ pT g (z + 132) (z + 133) 5 100 q ∨ pT g (z + 146) (z + 147) 4 100 q ∨ pT g (z + 158) (z + 159) 3 100 q) q → pT g (z + 158) (z + 159) 3 100 q ∨ ((fun q => q = (b, .inr (1, [.ref (z), .ref (z + 49), .ref (z + 50), .ref (z + 52), .ref (z + 54), .ref (z + 56), .int 0])) ∨ bT g (z) (z + 1) q ∨ q = (z + 49, .inl (g.2.2.2.2, 10, .inr (.inr (.inr (.inr (va_up (va_up (va_up (va_up (va_up (va_up (fun _ => none) 0 (some (z + 58))) 1 (some (z + 78))) 2 (some (z + 98))) 3 (some (z + 116))) 4 (some (z + 132))) 5 (some (z + 146)))))))) ∨ wT g (z + 50) (z + 51) 100 q ∨ wT g (z + 52) (z + 53) 100 q ∨ wT g (z + 54) (z + 55) 300 q ∨ wT g (z + 56) (z + 57) 300 q ∨ pT g (z + 58) (z + 59) 8 100 q ∨ pT g (z + 78) (z + 79) 8 100 q ∨ pT g (z + 98) (z + 99) 7 100 q ∨ pT g (z + 116) (z + 117) 6 100 q ∨ pT g (z + 132) (z + 133) 5 100 q ∨ pT g (z + 146) (z + 147) 4 100 q ∨ q = (z + 158, .inr (2, [.null, .int 0]))) q ∧ q.1 ≠ z + 158) := by
  rintro q (h | h | h | h | h | h | h | h | h | h | h | h | h | h)
  · exact Or.inr ⟨(Or.inl h), (by rw [h]; show (b : Nat) ≠ z + 158; omega)⟩
  · exact Or.inr ⟨(Or.inr (Or.inl h)), (by have h9 := bT_in h; omega)⟩
  · exact Or.inr ⟨(Or.inr (Or.inr (Or.inl h))), (by rw [h]; show (z + 49 : Nat) ≠ z + 158; omega)⟩
  · exact Or.inr ⟨(Or.inr (Or.inr (Or.inr (Or.inl h)))), (by have h9 := wT_in h; omega)⟩
  · exact Or.inr ⟨(Or.inr (Or.inr (Or.inr (Or.inr (Or.inl h))))), (by have h9 := wT_in h; omega)⟩
  · exact Or.inr ⟨(Or.inr (Or.inr (Or.inr (Or.inr (Or.inr (Or.inl h)))))), (by have h9 := wT_in h; omega)⟩
  · exact Or.inr ⟨(Or.inr (Or.inr (Or.inr (Or.inr (Or.inr (Or.inr (Or.inl h))))))), (by have h9 := wT_in h; omega)⟩
  · exact Or.inr ⟨(Or.inr (Or.inr (Or.inr (Or.inr (Or.inr (Or.inr (Or.inr (Or.inl h)))))))), (by have h9 := pT_in h; omega)⟩
  · exact Or.inr ⟨(Or.inr (Or.inr (Or.inr (Or.inr (Or.inr (Or.inr (Or.inr (Or.inr (Or.inl h))))))))), (by have h9 := pT_in h; omega)⟩
  · exact Or.inr ⟨(Or.inr (Or.inr (Or.inr (Or.inr (Or.inr (Or.inr (Or.inr (Or.inr (Or.inr (Or.inl h)))))))))), (by have h9 := pT_in h; omega)⟩
  · exact Or.inr ⟨(Or.inr (Or.inr (Or.inr (Or.inr (Or.inr (Or.inr (Or.inr (Or.inr (Or.inr (Or.inr (Or.inl h))))))))))), (by have h9 := pT_in h; omega)⟩
  · exact Or.inr ⟨(Or.inr (Or.inr (Or.inr (Or.inr (Or.inr (Or.inr (Or.inr (Or.inr (Or.inr (Or.inr (Or.inr (Or.inl h)))))))))))), (by have h9 := pT_in h; omega)⟩
  · exact Or.inr ⟨(Or.inr (Or.inr (Or.inr (Or.inr (Or.inr (Or.inr (Or.inr (Or.inr (Or.inr (Or.inr (Or.inr (Or.inr (Or.inl h))))))))))))), (by have h9 := pT_in h; omega)⟩
  · exact Or.inl h
theorem oX1_init_25 {g : mG} {b z : Nat} (hbz : b < z) : ∀ q : Nat × va_E, (fun q => q = (b, .inr (1, [.ref (z), .ref (z + 49), .ref (z + 50), .ref (z + 52), .ref (z + 54), .ref (z + 56), .int 0])) ∨ bT g (z) (z + 1) q ∨ q = (z + 49, .inl (g.2.2.2.2, 10, .inr (.inr (.inr (.inr (va_up (va_up (va_up (va_up (va_up (va_up (va_up (fun _ => none) 0 (some (z + 58))) 1 (some (z + 78))) 2 (some (z + 98))) 3 (some (z + 116))) 4 (some (z + 132))) 5 (some (z + 146))) 6 (some (z + 158)))))))) ∨ wT g (z + 50) (z + 51) 100 q ∨ wT g (z + 52) (z + 53) 100 q ∨ wT g (z + 54) (z + 55) 300 q ∨ wT g (z + 56) (z + 57) 300 q ∨ pT g (z + 58) (z + 59) 8 100 q ∨ pT g (z + 78) (z + 79) 8 100 q ∨ pT g (z + 98) (z + 99) 7 100 q ∨ pT g (z + 116) (z + 117) 6 100 q ∨ pT g (z + 132) (z + 133) 5 100 q ∨ pT g (z + 146) (z + 147) 4 100 q ∨ pT g (z + 158) (z + 159) 3 100 q) q → q = (z + 49, .inl (g.2.2.2.2, 10, .inr (.inr (.inr (.inr (va_up (va_up (va_up (va_up (va_up (va_up (va_up (fun _ => none) 0 (some (z + 58))) 1 (some (z + 78))) 2 (some (z + 98))) 3 (some (z + 116))) 4 (some (z + 132))) 5 (some (z + 146))) 6 (some (z + 158)))))))) ∨ ((fun q => q = (b, .inr (1, [.ref (z), .ref (z + 49), .ref (z + 50), .ref (z + 52), .ref (z + 54), .ref (z + 56), .int 0])) ∨ bT g (z) (z + 1) q ∨ q = (z + 49, .inl (g.2.2.2.2, 10, .inr (.inr (.inr (.inr (va_up (va_up (va_up (va_up (va_up (va_up (fun _ => none) 0 (some (z + 58))) 1 (some (z + 78))) 2 (some (z + 98))) 3 (some (z + 116))) 4 (some (z + 132))) 5 (some (z + 146)))))))) ∨ wT g (z + 50) (z + 51) 100 q ∨ wT g (z + 52) (z + 53) 100 q ∨ wT g (z + 54) (z + 55) 300 q ∨ wT g (z + 56) (z + 57) 300 q ∨ pT g (z + 58) (z + 59) 8 100 q ∨ pT g (z + 78) (z + 79) 8 100 q ∨ pT g (z + 98) (z + 99) 7 100 q ∨ pT g (z + 116) (z + 117) 6 100 q ∨ pT g (z + 132) (z + 133) 5 100 q ∨ pT g (z + 146) (z + 147) 4 100 q ∨ pT g (z + 158) (z + 159) 3 100 q) q ∧ q.1 ≠ z + 49) := by
  rintro q (h | h | h | h | h | h | h | h | h | h | h | h | h | h)
  · exact Or.inr ⟨(Or.inl h), (by rw [h]; show (b : Nat) ≠ z + 49; omega)⟩
  · exact Or.inr ⟨(Or.inr (Or.inl h)), (by have h9 := bT_in h; omega)⟩
  · exact Or.inl h
  · exact Or.inr ⟨(Or.inr (Or.inr (Or.inr (Or.inl h)))), (by have h9 := wT_in h; omega)⟩
  · exact Or.inr ⟨(Or.inr (Or.inr (Or.inr (Or.inr (Or.inl h))))), (by have h9 := wT_in h; omega)⟩
  · exact Or.inr ⟨(Or.inr (Or.inr (Or.inr (Or.inr (Or.inr (Or.inl h)))))), (by have h9 := wT_in h; omega)⟩
  · exact Or.inr ⟨(Or.inr (Or.inr (Or.inr (Or.inr (Or.inr (Or.inr (Or.inl h))))))), (by have h9 := wT_in h; omega)⟩
  · exact Or.inr ⟨(Or.inr (Or.inr (Or.inr (Or.inr (Or.inr (Or.inr (Or.inr (Or.inl h)))))))), (by have h9 := pT_in h; omega)⟩
  · exact Or.inr ⟨(Or.inr (Or.inr (Or.inr (Or.inr (Or.inr (Or.inr (Or.inr (Or.inr (Or.inl h))))))))), (by have h9 := pT_in h; omega)⟩
  · exact Or.inr ⟨(Or.inr (Or.inr (Or.inr (Or.inr (Or.inr (Or.inr (Or.inr (Or.inr (Or.inr (Or.inl h)))))))))), (by have h9 := pT_in h; omega)⟩
  · exact Or.inr ⟨(Or.inr (Or.inr (Or.inr (Or.inr (Or.inr (Or.inr (Or.inr (Or.inr (Or.inr (Or.inr (Or.inl h))))))))))), (by have h9 := pT_in h; omega)⟩
  · exact Or.inr ⟨(Or.inr (Or.inr (Or.inr (Or.inr (Or.inr (Or.inr (Or.inr (Or.inr (Or.inr (Or.inr (Or.inr (Or.inl h)))))))))))), (by have h9 := pT_in h; omega)⟩
  · exact Or.inr ⟨(Or.inr (Or.inr (Or.inr (Or.inr (Or.inr (Or.inr (Or.inr (Or.inr (Or.inr (Or.inr (Or.inr (Or.inr (Or.inl h))))))))))))), (by have h9 := pT_in h; omega)⟩
  · exact Or.inr ⟨(Or.inr (Or.inr (Or.inr (Or.inr (Or.inr (Or.inr (Or.inr (Or.inr (Or.inr (Or.inr (Or.inr (Or.inr (Or.inr h))))))))))))), (by have h9 := pT_in h; omega)⟩
theorem oX1_init_26 {g : mG} {b z : Nat} (hbz : b < z) : ∀ q : Nat × va_E, (fun q => q = (b, .inr (1, [.ref (z), .ref (z + 49), .ref (z + 50), .ref (z + 52), .ref (z + 54), .ref (z + 56), .int 0])) ∨ bT g (z) (z + 1) q ∨ q = (z + 49, .inl (g.2.2.2.2, 10, .inr (.inr (.inr (.inr (va_up (va_up (va_up (va_up (va_up (va_up (va_up (fun _ => none) 0 (some (z + 58))) 1 (some (z + 78))) 2 (some (z + 98))) 3 (some (z + 116))) 4 (some (z + 132))) 5 (some (z + 146))) 6 (some (z + 158)))))))) ∨ wT g (z + 50) (z + 51) 100 q ∨ wT g (z + 52) (z + 53) 100 q ∨ wT g (z + 54) (z + 55) 300 q ∨ wT g (z + 56) (z + 57) 300 q ∨ pT g (z + 58) (z + 59) 8 100 q ∨ pT g (z + 78) (z + 79) 8 100 q ∨ pT g (z + 98) (z + 99) 7 100 q ∨ pT g (z + 116) (z + 117) 6 100 q ∨ pT g (z + 132) (z + 133) 5 100 q ∨ pT g (z + 146) (z + 147) 4 100 q ∨ pT g (z + 158) (z + 159) 3 100 q ∨ pT g (z + 168) (z + 169) 2 100 q) q → pT g (z + 168) (z + 169) 2 100 q ∨ ((fun q => q = (b, .inr (1, [.ref (z), .ref (z + 49), .ref (z + 50), .ref (z + 52), .ref (z + 54), .ref (z + 56), .int 0])) ∨ bT g (z) (z + 1) q ∨ q = (z + 49, .inl (g.2.2.2.2, 10, .inr (.inr (.inr (.inr (va_up (va_up (va_up (va_up (va_up (va_up (va_up (fun _ => none) 0 (some (z + 58))) 1 (some (z + 78))) 2 (some (z + 98))) 3 (some (z + 116))) 4 (some (z + 132))) 5 (some (z + 146))) 6 (some (z + 158)))))))) ∨ wT g (z + 50) (z + 51) 100 q ∨ wT g (z + 52) (z + 53) 100 q ∨ wT g (z + 54) (z + 55) 300 q ∨ wT g (z + 56) (z + 57) 300 q ∨ pT g (z + 58) (z + 59) 8 100 q ∨ pT g (z + 78) (z + 79) 8 100 q ∨ pT g (z + 98) (z + 99) 7 100 q ∨ pT g (z + 116) (z + 117) 6 100 q ∨ pT g (z + 132) (z + 133) 5 100 q ∨ pT g (z + 146) (z + 147) 4 100 q ∨ pT g (z + 158) (z + 159) 3 100 q ∨ q = (z + 168, .inr (2, [.null, .int 0]))) q ∧ q.1 ≠ z + 168) := by
  rintro q (h | h | h | h | h | h | h | h | h | h | h | h | h | h | h)
  · exact Or.inr ⟨(Or.inl h), (by rw [h]; show (b : Nat) ≠ z + 168; omega)⟩
  · exact Or.inr ⟨(Or.inr (Or.inl h)), (by have h9 := bT_in h; omega)⟩
  · exact Or.inr ⟨(Or.inr (Or.inr (Or.inl h))), (by rw [h]; show (z + 49 : Nat) ≠ z + 168; omega)⟩
  · exact Or.inr ⟨(Or.inr (Or.inr (Or.inr (Or.inl h)))), (by have h9 := wT_in h; omega)⟩
  · exact Or.inr ⟨(Or.inr (Or.inr (Or.inr (Or.inr (Or.inl h))))), (by have h9 := wT_in h; omega)⟩
  · exact Or.inr ⟨(Or.inr (Or.inr (Or.inr (Or.inr (Or.inr (Or.inl h)))))), (by have h9 := wT_in h; omega)⟩
  · exact Or.inr ⟨(Or.inr (Or.inr (Or.inr (Or.inr (Or.inr (Or.inr (Or.inl h))))))), (by have h9 := wT_in h; omega)⟩
  · exact Or.inr ⟨(Or.inr (Or.inr (Or.inr (Or.inr (Or.inr (Or.inr (Or.inr (Or.inl h)))))))), (by have h9 := pT_in h; omega)⟩
  · exact Or.inr ⟨(Or.inr (Or.inr (Or.inr (Or.inr (Or.inr (Or.inr (Or.inr (Or.inr (Or.inl h))))))))), (by have h9 := pT_in h; omega)⟩
  · exact Or.inr ⟨(Or.inr (Or.inr (Or.inr (Or.inr (Or.inr (Or.inr (Or.inr (Or.inr (Or.inr (Or.inl h)))))))))), (by have h9 := pT_in h; omega)⟩
  · exact Or.inr ⟨(Or.inr (Or.inr (Or.inr (Or.inr (Or.inr (Or.inr (Or.inr (Or.inr (Or.inr (Or.inr (Or.inl h))))))))))), (by have h9 := pT_in h; omega)⟩
  · exact Or.inr ⟨(Or.inr (Or.inr (Or.inr (Or.inr (Or.inr (Or.inr (Or.inr (Or.inr (Or.inr (Or.inr (Or.inr (Or.inl h)))))))))))), (by have h9 := pT_in h; omega)⟩
  · exact Or.inr ⟨(Or.inr (Or.inr (Or.inr (Or.inr (Or.inr (Or.inr (Or.inr (Or.inr (Or.inr (Or.inr (Or.inr (Or.inr (Or.inl h))))))))))))), (by have h9 := pT_in h; omega)⟩
  · exact Or.inr ⟨(Or.inr (Or.inr (Or.inr (Or.inr (Or.inr (Or.inr (Or.inr (Or.inr (Or.inr (Or.inr (Or.inr (Or.inr (Or.inr (Or.inl h)))))))))))))), (by have h9 := pT_in h; omega)⟩
  · exact Or.inl h
theorem oX1_init_27 {g : mG} {b z : Nat} (hbz : b < z) : ∀ q : Nat × va_E, (fun q => q = (b, .inr (1, [.ref (z), .ref (z + 49), .ref (z + 50), .ref (z + 52), .ref (z + 54), .ref (z + 56), .int 0])) ∨ bT g (z) (z + 1) q ∨ q = (z + 49, .inl (g.2.2.2.2, 10, .inr (.inr (.inr (.inr (va_up (va_up (va_up (va_up (va_up (va_up (va_up (va_up (fun _ => none) 0 (some (z + 58))) 1 (some (z + 78))) 2 (some (z + 98))) 3 (some (z + 116))) 4 (some (z + 132))) 5 (some (z + 146))) 6 (some (z + 158))) 7 (some (z + 168)))))))) ∨ wT g (z + 50) (z + 51) 100 q ∨ wT g (z + 52) (z + 53) 100 q ∨ wT g (z + 54) (z + 55) 300 q ∨ wT g (z + 56) (z + 57) 300 q ∨ pT g (z + 58) (z + 59) 8 100 q ∨ pT g (z + 78) (z + 79) 8 100 q ∨ pT g (z + 98) (z + 99) 7 100 q ∨ pT g (z + 116) (z + 117) 6 100 q ∨ pT g (z + 132) (z + 133) 5 100 q ∨ pT g (z + 146) (z + 147) 4 100 q ∨ pT g (z + 158) (z + 159) 3 100 q ∨ pT g (z + 168) (z + 169) 2 100 q) q → q = (z + 49, .inl (g.2.2.2.2, 10, .inr (.inr (.inr (.inr (va_up (va_up (va_up (va_up (va_up (va_up (va_up (va_up (fun _ => none) 0 (some (z + 58))) 1 (some (z + 78))) 2 (some (z + 98))) 3 (some (z + 116))) 4 (some (z + 132))) 5 (some (z + 146))) 6 (some (z + 158))) 7 (some (z + 168)))))))) ∨ ((fun q => q = (b, .inr (1, [.ref (z), .ref (z + 49), .ref (z + 50), .ref (z + 52), .ref (z + 54), .ref (z + 56), .int 0])) ∨ bT g (z) (z + 1) q ∨ q = (z + 49, .inl (g.2.2.2.2, 10, .inr (.inr (.inr (.inr (va_up (va_up (va_up (va_up (va_up (va_up (va_up (fun _ => none) 0 (some (z + 58))) 1 (some (z + 78))) 2 (some (z + 98))) 3 (some (z + 116))) 4 (some (z + 132))) 5 (some (z + 146))) 6 (some (z + 158)))))))) ∨ wT g (z + 50) (z + 51) 100 q ∨ wT g (z + 52) (z + 53) 100 q ∨ wT g (z + 54) (z + 55) 300 q ∨ wT g (z + 56) (z + 57) 300 q ∨ pT g (z + 58) (z + 59) 8 100 q ∨ pT g (z + 78) (z + 79) 8 100 q ∨ pT g (z + 98) (z + 99) 7 100 q ∨ pT g (z + 116) (z + 117) 6 100 q ∨ pT g (z + 132) (z + 133) 5 100 q ∨ pT g (z + 146) (z + 147) 4 100 q ∨ pT g (z + 158) (z + 159) 3 100 q ∨ pT g (z + 168) (z + 169) 2 100 q) q ∧ q.1 ≠ z + 49) := by
  rintro q (h | h | h | h | h | h | h | h | h | h | h | h | h | h | h)
  · exact Or.inr ⟨(Or.inl h), (by rw [h]; show (b : Nat) ≠ z + 49; omega)⟩
  · exact Or.inr ⟨(Or.inr (Or.inl h)), (by have h9 := bT_in h; omega)⟩
  · exact Or.inl h
  · exact Or.inr ⟨(Or.inr (Or.inr (Or.inr (Or.inl h)))), (by have h9 := wT_in h; omega)⟩
  · exact Or.inr ⟨(Or.inr (Or.inr (Or.inr (Or.inr (Or.inl h))))), (by have h9 := wT_in h; omega)⟩
  · exact Or.inr ⟨(Or.inr (Or.inr (Or.inr (Or.inr (Or.inr (Or.inl h)))))), (by have h9 := wT_in h; omega)⟩
  · exact Or.inr ⟨(Or.inr (Or.inr (Or.inr (Or.inr (Or.inr (Or.inr (Or.inl h))))))), (by have h9 := wT_in h; omega)⟩
  · exact Or.inr ⟨(Or.inr (Or.inr (Or.inr (Or.inr (Or.inr (Or.inr (Or.inr (Or.inl h)))))))), (by have h9 := pT_in h; omega)⟩
  · exact Or.inr ⟨(Or.inr (Or.inr (Or.inr (Or.inr (Or.inr (Or.inr (Or.inr (Or.inr (Or.inl h))))))))), (by have h9 := pT_in h; omega)⟩
  · exact Or.inr ⟨(Or.inr (Or.inr (Or.inr (Or.inr (Or.inr (Or.inr (Or.inr (Or.inr (Or.inr (Or.inl h)))))))))), (by have h9 := pT_in h; omega)⟩
  · exact Or.inr ⟨(Or.inr (Or.inr (Or.inr (Or.inr (Or.inr (Or.inr (Or.inr (Or.inr (Or.inr (Or.inr (Or.inl h))))))))))), (by have h9 := pT_in h; omega)⟩
  · exact Or.inr ⟨(Or.inr (Or.inr (Or.inr (Or.inr (Or.inr (Or.inr (Or.inr (Or.inr (Or.inr (Or.inr (Or.inr (Or.inl h)))))))))))), (by have h9 := pT_in h; omega)⟩
  · exact Or.inr ⟨(Or.inr (Or.inr (Or.inr (Or.inr (Or.inr (Or.inr (Or.inr (Or.inr (Or.inr (Or.inr (Or.inr (Or.inr (Or.inl h))))))))))))), (by have h9 := pT_in h; omega)⟩
  · exact Or.inr ⟨(Or.inr (Or.inr (Or.inr (Or.inr (Or.inr (Or.inr (Or.inr (Or.inr (Or.inr (Or.inr (Or.inr (Or.inr (Or.inr (Or.inl h)))))))))))))), (by have h9 := pT_in h; omega)⟩
  · exact Or.inr ⟨(Or.inr (Or.inr (Or.inr (Or.inr (Or.inr (Or.inr (Or.inr (Or.inr (Or.inr (Or.inr (Or.inr (Or.inr (Or.inr (Or.inr h)))))))))))))), (by have h9 := pT_in h; omega)⟩
theorem oX1_init_28 {g : mG} {b z : Nat} (hbz : b < z) : ∀ q : Nat × va_E, (fun q => q = (b, .inr (1, [.ref (z), .ref (z + 49), .ref (z + 50), .ref (z + 52), .ref (z + 54), .ref (z + 56), .int 0])) ∨ bT g (z) (z + 1) q ∨ q = (z + 49, .inl (g.2.2.2.2, 10, .inr (.inr (.inr (.inr (va_up (va_up (va_up (va_up (va_up (va_up (va_up (va_up (fun _ => none) 0 (some (z + 58))) 1 (some (z + 78))) 2 (some (z + 98))) 3 (some (z + 116))) 4 (some (z + 132))) 5 (some (z + 146))) 6 (some (z + 158))) 7 (some (z + 168)))))))) ∨ wT g (z + 50) (z + 51) 100 q ∨ wT g (z + 52) (z + 53) 100 q ∨ wT g (z + 54) (z + 55) 300 q ∨ wT g (z + 56) (z + 57) 300 q ∨ pT g (z + 58) (z + 59) 8 100 q ∨ pT g (z + 78) (z + 79) 8 100 q ∨ pT g (z + 98) (z + 99) 7 100 q ∨ pT g (z + 116) (z + 117) 6 100 q ∨ pT g (z + 132) (z + 133) 5 100 q ∨ pT g (z + 146) (z + 147) 4 100 q ∨ pT g (z + 158) (z + 159) 3 100 q ∨ pT g (z + 168) (z + 169) 2 100 q ∨ pT g (z + 176) (z + 177) 1 100 q) q → pT g (z + 176) (z + 177) 1 100 q ∨ ((fun q => q = (b, .inr (1, [.ref (z), .ref (z + 49), .ref (z + 50), .ref (z + 52), .ref (z + 54), .ref (z + 56), .int 0])) ∨ bT g (z) (z + 1) q ∨ q = (z + 49, .inl (g.2.2.2.2, 10, .inr (.inr (.inr (.inr (va_up (va_up (va_up (va_up (va_up (va_up (va_up (va_up (fun _ => none) 0 (some (z + 58))) 1 (some (z + 78))) 2 (some (z + 98))) 3 (some (z + 116))) 4 (some (z + 132))) 5 (some (z + 146))) 6 (some (z + 158))) 7 (some (z + 168)))))))) ∨ wT g (z + 50) (z + 51) 100 q ∨ wT g (z + 52) (z + 53) 100 q ∨ wT g (z + 54) (z + 55) 300 q ∨ wT g (z + 56) (z + 57) 300 q ∨ pT g (z + 58) (z + 59) 8 100 q ∨ pT g (z + 78) (z + 79) 8 100 q ∨ pT g (z + 98) (z + 99) 7 100 q ∨ pT g (z + 116) (z + 117) 6 100 q ∨ pT g (z + 132) (z + 133) 5 100 q ∨ pT g (z + 146) (z + 147) 4 100 q ∨ pT g (z + 158) (z + 159) 3 100 q ∨ pT g (z + 168) (z + 169) 2 100 q ∨ q = (z + 176, .inr (2, [.null, .int 0]))) q ∧ q.1 ≠ z + 176) := by
  rintro q (h | h | h | h | h | h | h | h | h | h | h | h | h | h | h | h)
  · exact Or.inr ⟨(Or.inl h), (by rw [h]; show (b : Nat) ≠ z + 176; omega)⟩
  · exact Or.inr ⟨(Or.inr (Or.inl h)), (by have h9 := bT_in h; omega)⟩
  · exact Or.inr ⟨(Or.inr (Or.inr (Or.inl h))), (by rw [h]; show (z + 49 : Nat) ≠ z + 176; omega)⟩
  · exact Or.inr ⟨(Or.inr (Or.inr (Or.inr (Or.inl h)))), (by have h9 := wT_in h; omega)⟩
  · exact Or.inr ⟨(Or.inr (Or.inr (Or.inr (Or.inr (Or.inl h))))), (by have h9 := wT_in h; omega)⟩
  · exact Or.inr ⟨(Or.inr (Or.inr (Or.inr (Or.inr (Or.inr (Or.inl h)))))), (by have h9 := wT_in h; omega)⟩
  · exact Or.inr ⟨(Or.inr (Or.inr (Or.inr (Or.inr (Or.inr (Or.inr (Or.inl h))))))), (by have h9 := wT_in h; omega)⟩
  · exact Or.inr ⟨(Or.inr (Or.inr (Or.inr (Or.inr (Or.inr (Or.inr (Or.inr (Or.inl h)))))))), (by have h9 := pT_in h; omega)⟩
  · exact Or.inr ⟨(Or.inr (Or.inr (Or.inr (Or.inr (Or.inr (Or.inr (Or.inr (Or.inr (Or.inl h))))))))), (by have h9 := pT_in h; omega)⟩
  · exact Or.inr ⟨(Or.inr (Or.inr (Or.inr (Or.inr (Or.inr (Or.inr (Or.inr (Or.inr (Or.inr (Or.inl h)))))))))), (by have h9 := pT_in h; omega)⟩
  · exact Or.inr ⟨(Or.inr (Or.inr (Or.inr (Or.inr (Or.inr (Or.inr (Or.inr (Or.inr (Or.inr (Or.inr (Or.inl h))))))))))), (by have h9 := pT_in h; omega)⟩
  · exact Or.inr ⟨(Or.inr (Or.inr (Or.inr (Or.inr (Or.inr (Or.inr (Or.inr (Or.inr (Or.inr (Or.inr (Or.inr (Or.inl h)))))))))))), (by have h9 := pT_in h; omega)⟩
  · exact Or.inr ⟨(Or.inr (Or.inr (Or.inr (Or.inr (Or.inr (Or.inr (Or.inr (Or.inr (Or.inr (Or.inr (Or.inr (Or.inr (Or.inl h))))))))))))), (by have h9 := pT_in h; omega)⟩
  · exact Or.inr ⟨(Or.inr (Or.inr (Or.inr (Or.inr (Or.inr (Or.inr (Or.inr (Or.inr (Or.inr (Or.inr (Or.inr (Or.inr (Or.inr (Or.inl h)))))))))))))), (by have h9 := pT_in h; omega)⟩
  · exact Or.inr ⟨(Or.inr (Or.inr (Or.inr (Or.inr (Or.inr (Or.inr (Or.inr (Or.inr (Or.inr (Or.inr (Or.inr (Or.inr (Or.inr (Or.inr (Or.inl h))))))))))))))), (by have h9 := pT_in h; omega)⟩
  · exact Or.inl h
theorem oX1_init_29 {g : mG} {b z : Nat} (hbz : b < z) : ∀ q : Nat × va_E, (fun q => q = (b, .inr (1, [.ref (z), .ref (z + 49), .ref (z + 50), .ref (z + 52), .ref (z + 54), .ref (z + 56), .int 0])) ∨ bT g (z) (z + 1) q ∨ q = (z + 49, .inl (g.2.2.2.2, 10, .inr (.inr (.inr (.inr (va_up (va_up (va_up (va_up (va_up (va_up (va_up (va_up (va_up (fun _ => none) 0 (some (z + 58))) 1 (some (z + 78))) 2 (some (z + 98))) 3 (some (z + 116))) 4 (some (z + 132))) 5 (some (z + 146))) 6 (some (z + 158))) 7 (some (z + 168))) 8 (some (z + 176)))))))) ∨ wT g (z + 50) (z + 51) 100 q ∨ wT g (z + 52) (z + 53) 100 q ∨ wT g (z + 54) (z + 55) 300 q ∨ wT g (z + 56) (z + 57) 300 q ∨ pT g (z + 58) (z + 59) 8 100 q ∨ pT g (z + 78) (z + 79) 8 100 q ∨ pT g (z + 98) (z + 99) 7 100 q ∨ pT g (z + 116) (z + 117) 6 100 q ∨ pT g (z + 132) (z + 133) 5 100 q ∨ pT g (z + 146) (z + 147) 4 100 q ∨ pT g (z + 158) (z + 159) 3 100 q ∨ pT g (z + 168) (z + 169) 2 100 q ∨ pT g (z + 176) (z + 177) 1 100 q) q → q = (z + 49, .inl (g.2.2.2.2, 10, .inr (.inr (.inr (.inr (va_up (va_up (va_up (va_up (va_up (va_up (va_up (va_up (va_up (fun _ => none) 0 (some (z + 58))) 1 (some (z + 78))) 2 (some (z + 98))) 3 (some (z + 116))) 4 (some (z + 132))) 5 (some (z + 146))) 6 (some (z + 158))) 7 (some (z + 168))) 8 (some (z + 176)))))))) ∨ ((fun q => q = (b, .inr (1, [.ref (z), .ref (z + 49), .ref (z + 50), .ref (z + 52), .ref (z + 54), .ref (z + 56), .int 0])) ∨ bT g (z) (z + 1) q ∨ q = (z + 49, .inl (g.2.2.2.2, 10, .inr (.inr (.inr (.inr (va_up (va_up (va_up (va_up (va_up (va_up (va_up (va_up (fun _ => none) 0 (some (z + 58))) 1 (some (z + 78))) 2 (some (z + 98))) 3 (some (z + 116))) 4 (some (z + 132))) 5 (some (z + 146))) 6 (some (z + 158))) 7 (some (z + 168)))))))) ∨ wT g (z + 50) (z + 51) 100 q ∨ wT g (z + 52) (z + 53) 100 q ∨ wT g (z + 54) (z + 55) 300 q ∨ wT g (z + 56) (z + 57) 300 q ∨ pT g (z + 58) (z + 59) 8 100 q ∨ pT g (z + 78) (z + 79) 8 100 q ∨ pT g (z + 98) (z + 99) 7 100 q ∨ pT g (z + 116) (z + 117) 6 100 q ∨ pT g (z + 132) (z + 133) 5 100 q ∨ pT g (z + 146) (z + 147) 4 100 q ∨ pT g (z + 158) (z + 159) 3 100 q ∨ pT g (z + 168) (z + 169) 2 100 q ∨ pT g (z + 176) (z + 177) 1 100 q) q ∧ q.1 ≠ z + 49) := by
  rintro q (h | h | h | h | h | h | h | h | h | h | h | h | h | h | h | h)
  · exact Or.inr ⟨(Or.inl h), (by rw [h]; show (b : Nat) ≠ z + 49; omega)⟩
  · exact Or.inr ⟨(Or.inr (Or.inl h)), (by have h9 := bT_in h; omega)⟩
  · exact Or.inl h
  · exact Or.inr ⟨(Or.inr (Or.inr (Or.inr (Or.inl h)))), (by have h9 := wT_in h; omega)⟩
  · exact Or.inr ⟨(Or.inr (Or.inr (Or.inr (Or.inr (Or.inl h))))), (by have h9 := wT_in h; omega)⟩
  · exact Or.inr ⟨(Or.inr (Or.inr (Or.inr (Or.inr (Or.inr (Or.inl h)))))), (by have h9 := wT_in h; omega)⟩
  · exact Or.inr ⟨(Or.inr (Or.inr (Or.inr (Or.inr (Or.inr (Or.inr (Or.inl h))))))), (by have h9 := wT_in h; omega)⟩
  · exact Or.inr ⟨(Or.inr (Or.inr (Or.inr (Or.inr (Or.inr (Or.inr (Or.inr (Or.inl h)))))))), (by have h9 := pT_in h; omega)⟩
  · exact Or.inr ⟨(Or.inr (Or.inr (Or.inr (Or.inr (Or.inr (Or.inr (Or.inr (Or.inr (Or.inl h))))))))), (by have h9 := pT_in h; omega)⟩
  · exact Or.inr ⟨(Or.inr (Or.inr (Or.inr (Or.inr (Or.inr (Or.inr (Or.inr (Or.inr (Or.inr (Or.inl h)))))))))), (by have h9 := pT_in h; omega)⟩
  · exact Or.inr ⟨(Or.inr (Or.inr (Or.inr (Or.inr (Or.inr (Or.inr (Or.inr (Or.inr (Or.inr (Or.inr (Or.inl h))))))))))), (by have h9 := pT_in h; omega)⟩
  · exact Or.inr ⟨(Or.inr (Or.inr (Or.inr (Or.inr (Or.inr (Or.inr (Or.inr (Or.inr (Or.inr (Or.inr (Or.inr (Or.inl h)))))))))))), (by have h9 := pT_in h; omega)⟩
  · exact Or.inr ⟨(Or.inr (Or.inr (Or.inr (Or.inr (Or.inr (Or.inr (Or.inr (Or.inr (Or.inr (Or.inr (Or.inr (Or.inr (Or.inl h))))))))))))), (by have h9 := pT_in h; omega)⟩
  · exact Or.inr ⟨(Or.inr (Or.inr (Or.inr (Or.inr (Or.inr (Or.inr (Or.inr (Or.inr (Or.inr (Or.inr (Or.inr (Or.inr (Or.inr (Or.inl h)))))))))))))), (by have h9 := pT_in h; omega)⟩
  · exact Or.inr ⟨(Or.inr (Or.inr (Or.inr (Or.inr (Or.inr (Or.inr (Or.inr (Or.inr (Or.inr (Or.inr (Or.inr (Or.inr (Or.inr (Or.inr (Or.inl h))))))))))))))), (by have h9 := pT_in h; omega)⟩
  · exact Or.inr ⟨(Or.inr (Or.inr (Or.inr (Or.inr (Or.inr (Or.inr (Or.inr (Or.inr (Or.inr (Or.inr (Or.inr (Or.inr (Or.inr (Or.inr (Or.inr h))))))))))))))), (by have h9 := pT_in h; omega)⟩
theorem oX1_init_30 {g : mG} {b z : Nat} (hbz : b < z) : ∀ q : Nat × va_E, (fun q => q = (b, .inr (1, [.ref (z), .ref (z + 49), .ref (z + 50), .ref (z + 52), .ref (z + 54), .ref (z + 56), .int 0])) ∨ bT g (z) (z + 1) q ∨ q = (z + 49, .inl (g.2.2.2.2, 10, .inr (.inr (.inr (.inr (va_up (va_up (va_up (va_up (va_up (va_up (va_up (va_up (va_up (fun _ => none) 0 (some (z + 58))) 1 (some (z + 78))) 2 (some (z + 98))) 3 (some (z + 116))) 4 (some (z + 132))) 5 (some (z + 146))) 6 (some (z + 158))) 7 (some (z + 168))) 8 (some (z + 176)))))))) ∨ wT g (z + 50) (z + 51) 100 q ∨ wT g (z + 52) (z + 53) 100 q ∨ wT g (z + 54) (z + 55) 300 q ∨ wT g (z + 56) (z + 57) 300 q ∨ pT g (z + 58) (z + 59) 8 100 q ∨ pT g (z + 78) (z + 79) 8 100 q ∨ pT g (z + 98) (z + 99) 7 100 q ∨ pT g (z + 116) (z + 117) 6 100 q ∨ pT g (z + 132) (z + 133) 5 100 q ∨ pT g (z + 146) (z + 147) 4 100 q ∨ pT g (z + 158) (z + 159) 3 100 q ∨ pT g (z + 168) (z + 169) 2 100 q ∨ pT g (z + 176) (z + 177) 1 100 q ∨ pT g (z + 182) (z + 183) 0 100 q) q → pT g (z + 182) (z + 183) 0 100 q ∨ ((fun q => q = (b, .inr (1, [.ref (z), .ref (z + 49), .ref (z + 50), .ref (z + 52), .ref (z + 54), .ref (z + 56), .int 0])) ∨ bT g (z) (z + 1) q ∨ q = (z + 49, .inl (g.2.2.2.2, 10, .inr (.inr (.inr (.inr (va_up (va_up (va_up (va_up (va_up (va_up (va_up (va_up (va_up (fun _ => none) 0 (some (z + 58))) 1 (some (z + 78))) 2 (some (z + 98))) 3 (some (z + 116))) 4 (some (z + 132))) 5 (some (z + 146))) 6 (some (z + 158))) 7 (some (z + 168))) 8 (some (z + 176)))))))) ∨ wT g (z + 50) (z + 51) 100 q ∨ wT g (z + 52) (z + 53) 100 q ∨ wT g (z + 54) (z + 55) 300 q ∨ wT g (z + 56) (z + 57) 300 q ∨ pT g (z + 58) (z + 59) 8 100 q ∨ pT g (z + 78) (z + 79) 8 100 q ∨ pT g (z + 98) (z + 99) 7 100 q ∨ pT g (z + 116) (z + 117) 6 100 q ∨ pT g (z + 132) (z + 133) 5 100 q ∨ pT g (z + 146) (z + 147) 4 100 q ∨ pT g (z + 158) (z + 159) 3 100 q ∨ pT g (z + 168) (z + 169) 2 100 q ∨ pT g (z + 176) (z + 177) 1 100 q ∨ q = (z + 182, .inr (2, [.null, .int 0]))) q ∧ q.1 ≠ z + 182) := by
  rintro q (h | h | h | h | h | h | h | h | h | h | h | h | h | h | h | h | h)
  · exact Or.inr ⟨(Or.inl h), (by rw [h]; show (b : Nat) ≠ z + 182; omega)⟩
  · exact Or.inr ⟨(Or.inr (Or.inl h)), (by have h9 := bT_in h; omega)⟩
  · exact Or.inr ⟨(Or.inr (Or.inr (Or.inl h))), (by rw [h]; show (z + 49 : Nat) ≠ z + 182; omega)⟩
  · exact Or.inr ⟨(Or.inr (Or.inr (Or.inr (Or.inl h)))), (by have h9 := wT_in h; omega)⟩
  · exact Or.inr ⟨(Or.inr (Or.inr (Or.inr (Or.inr (Or.inl h))))), (by have h9 := wT_in h; omega)⟩
  · exact Or.inr ⟨(Or.inr (Or.inr (Or.inr (Or.inr (Or.inr (Or.inl h)))))), (by have h9 := wT_in h; omega)⟩
  · exact Or.inr ⟨(Or.inr (Or.inr (Or.inr (Or.inr (Or.inr (Or.inr (Or.inl h))))))), (by have h9 := wT_in h; omega)⟩
  · exact Or.inr ⟨(Or.inr (Or.inr (Or.inr (Or.inr (Or.inr (Or.inr (Or.inr (Or.inl h)))))))), (by have h9 := pT_in h; omega)⟩
  · exact Or.inr ⟨(Or.inr (Or.inr (Or.inr (Or.inr (Or.inr (Or.inr (Or.inr (Or.inr (Or.inl h))))))))), (by have h9 := pT_in h; omega)⟩
  · exact Or.inr ⟨(Or.inr (Or.inr (Or.inr (Or.inr (Or.inr (Or.inr (Or.inr (Or.inr (Or.inr (Or.inl h)))))))))), (by have h9 := pT_in h; omega)⟩
  · exact Or.inr ⟨(Or.inr (Or.inr (Or.inr (Or.inr (Or.inr (Or.inr (Or.inr (Or.inr (Or.inr (Or.inr (Or.inl h))))))))))), (by have h9 := pT_in h; omega)⟩
  · exact Or.inr ⟨(Or.inr (Or.inr (Or.inr (Or.inr (Or.inr (Or.inr (Or.inr (Or.inr (Or.inr (Or.inr (Or.inr (Or.inl h)))))))))))), (by have h9 := pT_in h; omega)⟩
  · exact Or.inr ⟨(Or.inr (Or.inr (Or.inr (Or.inr (Or.inr (Or.inr (Or.inr (Or.inr (Or.inr (Or.inr (Or.inr (Or.inr (Or.inl h))))))))))))), (by have h9 := pT_in h; omega)⟩
  · exact Or.inr ⟨(Or.inr (Or.inr (Or.inr (Or.inr (Or.inr (Or.inr (Or.inr (Or.inr (Or.inr (Or.inr (Or.inr (Or.inr (Or.inr (Or.inl h)))))))))))))), (by have h9 := pT_in h; omega)⟩
  · exact Or.inr ⟨(Or.inr (Or.inr (Or.inr (Or.inr (Or.inr (Or.inr (Or.inr (Or.inr (Or.inr (Or.inr (Or.inr (Or.inr (Or.inr (Or.inr (Or.inl h))))))))))))))), (by have h9 := pT_in h; omega)⟩
  · exact Or.inr ⟨(Or.inr (Or.inr (Or.inr (Or.inr (Or.inr (Or.inr (Or.inr (Or.inr (Or.inr (Or.inr (Or.inr (Or.inr (Or.inr (Or.inr (Or.inr (Or.inl h)))))))))))))))), (by have h9 := pT_in h; omega)⟩
  · exact Or.inl h
theorem oX1_init_31 {g : mG} {b z : Nat} (hbz : b < z) : ∀ q : Nat × va_E, (fun q => q = (b, .inr (1, [.ref (z), .ref (z + 49), .ref (z + 50), .ref (z + 52), .ref (z + 54), .ref (z + 56), .int 0])) ∨ bT g (z) (z + 1) q ∨ q = (z + 49, .inl (g.2.2.2.2, 10, .inr (.inr (.inr (.inr (va_up (va_up (va_up (va_up (va_up (va_up (va_up (va_up (va_up (va_up (fun _ => none) 0 (some (z + 58))) 1 (some (z + 78))) 2 (some (z + 98))) 3 (some (z + 116))) 4 (some (z + 132))) 5 (some (z + 146))) 6 (some (z + 158))) 7 (some (z + 168))) 8 (some (z + 176))) 9 (some (z + 182)))))))) ∨ wT g (z + 50) (z + 51) 100 q ∨ wT g (z + 52) (z + 53) 100 q ∨ wT g (z + 54) (z + 55) 300 q ∨ wT g (z + 56) (z + 57) 300 q ∨ pT g (z + 58) (z + 59) 8 100 q ∨ pT g (z + 78) (z + 79) 8 100 q ∨ pT g (z + 98) (z + 99) 7 100 q ∨ pT g (z + 116) (z + 117) 6 100 q ∨ pT g (z + 132) (z + 133) 5 100 q ∨ pT g (z + 146) (z + 147) 4 100 q ∨ pT g (z + 158) (z + 159) 3 100 q ∨ pT g (z + 168) (z + 169) 2 100 q ∨ pT g (z + 176) (z + 177) 1 100 q ∨ pT g (z + 182) (z + 183) 0 100 q) q → q = (z + 49, .inl (g.2.2.2.2, 10, .inr (.inr (.inr (.inr (va_up (va_up (va_up (va_up (va_up (va_up (va_up (va_up (va_up (va_up (fun _ => none) 0 (some (z + 58))) 1 (some (z + 78))) 2 (some (z + 98))) 3 (some (z + 116))) 4 (some (z + 132))) 5 (some (z + 146))) 6 (some (z + 158))) 7 (some (z + 168))) 8 (some (z + 176))) 9 (some (z + 182)))))))) ∨ ((fun q => q = (b, .inr (1, [.ref (z), .ref (z + 49), .ref (z + 50), .ref (z + 52), .ref (z + 54), .ref (z + 56), .int 0])) ∨ bT g (z) (z + 1) q ∨ q = (z + 49, .inl (g.2.2.2.2, 10, .inr (.inr (.inr (.inr (va_up (va_up (va_up (va_up (va_up (va_up (va_up (va_up (va_up (fun _ => none) 0 (some (z + 58))) 1 (some (z + 78))) 2 (some (z + 98))) 3 (some (z + 116))) 4 (some (z + 132))) 5 (some (z + 146))) 6 (some (z + 158))) 7 (some (z + 168))) 8 (some (z + 176)))))))) ∨ wT g (z + 50) (z + 51) 100 q ∨ wT g (z + 52) (z + 53) 100 q ∨ wT g (z + 54) (z + 55) 300 q ∨ wT g (z + 56) (z + 57) 300 q ∨ pT g (z + 58) (z + 59) 8 100 q ∨ pT g (z + 78) (z + 79) 8 100 q ∨ pT g (z + 98) (z + 99) 7 100 q ∨ pT g (z + 116) (z + 117) 6 100 q ∨ pT g (z + 132) (z + 133) 5 100 q ∨ pT g (z + 146) (z + 147) 4 100 q ∨ pT g (z + 158) (z + 159) 3 100 q ∨ pT g (z + 168) (z + 169) 2 100 q ∨ pT g (z + 176) (z + 177) 1 100 q ∨ pT g (z + 182) (z + 183) 0 100 q) q ∧ q.1 ≠ z + 49) := by
  rintro q (h | h | h | h | h | h | h | h | h | h | h | h | h | h | h | h | h)
  · exact Or.inr ⟨(Or.inl h), (by rw [h]; show (b : Nat) ≠ z + 49; omega)⟩
  · exact Or.inr ⟨(Or.inr (Or.inl h)), (by have h9 := bT_in h; omega)⟩
  · exact Or.inl h
  · exact Or.inr ⟨(Or.inr (Or.inr (Or.inr (Or.inl h)))), (by have h9 := wT_in h; omega)⟩
  · exact Or.inr ⟨(Or.inr (Or.inr (Or.inr (Or.inr (Or.inl h))))), (by have h9 := wT_in h; omega)⟩
  · exact Or.inr ⟨(Or.inr (Or.inr (Or.inr (Or.inr (Or.inr (Or.inl h)))))), (by have h9 := wT_in h; omega)⟩
  · exact Or.inr ⟨(Or.inr (Or.inr (Or.inr (Or.inr (Or.inr (Or.inr (Or.inl h))))))), (by have h9 := wT_in h; omega)⟩
  · exact Or.inr ⟨(Or.inr (Or.inr (Or.inr (Or.inr (Or.inr (Or.inr (Or.inr (Or.inl h)))))))), (by have h9 := pT_in h; omega)⟩
  · exact Or.inr ⟨(Or.inr (Or.inr (Or.inr (Or.inr (Or.inr (Or.inr (Or.inr (Or.inr (Or.inl h))))))))), (by have h9 := pT_in h; omega)⟩
  · exact Or.inr ⟨(Or.inr (Or.inr (Or.inr (Or.inr (Or.inr (Or.inr (Or.inr (Or.inr (Or.inr (Or.inl h)))))))))), (by have h9 := pT_in h; omega)⟩
  · exact Or.inr ⟨(Or.inr (Or.inr (Or.inr (Or.inr (Or.inr (Or.inr (Or.inr (Or.inr (Or.inr (Or.inr (Or.inl h))))))))))), (by have h9 := pT_in h; omega)⟩
  · exact Or.inr ⟨(Or.inr (Or.inr (Or.inr (Or.inr (Or.inr (Or.inr (Or.inr (Or.inr (Or.inr (Or.inr (Or.inr (Or.inl h)))))))))))), (by have h9 := pT_in h; omega)⟩
  · exact Or.inr ⟨(Or.inr (Or.inr (Or.inr (Or.inr (Or.inr (Or.inr (Or.inr (Or.inr (Or.inr (Or.inr (Or.inr (Or.inr (Or.inl h))))))))))))), (by have h9 := pT_in h; omega)⟩
  · exact Or.inr ⟨(Or.inr (Or.inr (Or.inr (Or.inr (Or.inr (Or.inr (Or.inr (Or.inr (Or.inr (Or.inr (Or.inr (Or.inr (Or.inr (Or.inl h)))))))))))))), (by have h9 := pT_in h; omega)⟩
  · exact Or.inr ⟨(Or.inr (Or.inr (Or.inr (Or.inr (Or.inr (Or.inr (Or.inr (Or.inr (Or.inr (Or.inr (Or.inr (Or.inr (Or.inr (Or.inr (Or.inl h))))))))))))))), (by have h9 := pT_in h; omega)⟩
  · exact Or.inr ⟨(Or.inr (Or.inr (Or.inr (Or.inr (Or.inr (Or.inr (Or.inr (Or.inr (Or.inr (Or.inr (Or.inr (Or.inr (Or.inr (Or.inr (Or.inr (Or.inl h)))))))))))))))), (by have h9 := pT_in h; omega)⟩
  · exact Or.inr ⟨(Or.inr (Or.inr (Or.inr (Or.inr (Or.inr (Or.inr (Or.inr (Or.inr (Or.inr (Or.inr (Or.inr (Or.inr (Or.inr (Or.inr (Or.inr (Or.inr h)))))))))))))))), (by have h9 := pT_in h; omega)⟩
def hT (g : mG) (b z : Nat) : Nat × va_E → Prop := fun q => q = (b, .inr (1, [.ref (z), .ref (z + 49), .ref (z + 50), .ref (z + 52), .ref (z + 54), .ref (z + 56), .int 0])) ∨ bT g (z) (z + 1) q ∨ q = (z + 49, .inl (g.2.2.2.2, 10, .inr (.inr (.inr (.inr (va_up (va_up (va_up (va_up (va_up (va_up (va_up (va_up (va_up (va_up (fun _ => none) 0 (some (z + 58))) 1 (some (z + 78))) 2 (some (z + 98))) 3 (some (z + 116))) 4 (some (z + 132))) 5 (some (z + 146))) 6 (some (z + 158))) 7 (some (z + 168))) 8 (some (z + 176))) 9 (some (z + 182)))))))) ∨ wT g (z + 50) (z + 51) 100 q ∨ wT g (z + 52) (z + 53) 100 q ∨ wT g (z + 54) (z + 55) 300 q ∨ wT g (z + 56) (z + 57) 300 q ∨ pT g (z + 58) (z + 59) 8 100 q ∨ pT g (z + 78) (z + 79) 8 100 q ∨ pT g (z + 98) (z + 99) 7 100 q ∨ pT g (z + 116) (z + 117) 6 100 q ∨ pT g (z + 132) (z + 133) 5 100 q ∨ pT g (z + 146) (z + 147) 4 100 q ∨ pT g (z + 158) (z + 159) 3 100 q ∨ pT g (z + 168) (z + 169) 2 100 q ∨ pT g (z + 176) (z + 177) 1 100 q ∨ pT g (z + 182) (z + 183) 0 100 q
theorem hT_in {g : mG} {b z : Nat} {q : Nat × va_E} (h : hT g b z q) : q.1 = b ∨ (z ≤ q.1 ∧ q.1 < z + 186) := by
  rcases h with h | h | h | h | h | h | h | h | h | h | h | h | h | h | h | h | h
  · rw [h]; show (b : Nat) = b ∨ (z ≤ b ∧ b < z + 186); omega
  · have h9 := bT_in h; omega
  · rw [h]; show (z + 49 : Nat) = b ∨ (z ≤ z + 49 ∧ z + 49 < z + 186); omega
  · have h9 := wT_in h; omega
  · have h9 := wT_in h; omega
  · have h9 := wT_in h; omega
  · have h9 := wT_in h; omega
  · have h9 := pT_in h; omega
  · have h9 := pT_in h; omega
  · have h9 := pT_in h; omega
  · have h9 := pT_in h; omega
  · have h9 := pT_in h; omega
  · have h9 := pT_in h; omega
  · have h9 := pT_in h; omega
  · have h9 := pT_in h; omega
  · have h9 := pT_in h; omega
  · have h9 := pT_in h; omega
abbrev rm_X1_init : Room := { frames := 4, cells := 186, slots := 10992, locals := 76 }
set_option maxRecDepth 100000 in
set_option maxHeartbeats 4000000 in
theorem kX1_init {l : Launch} {D : va_G} {g : mG} {b z : Nat} (hbz : b < z) : Met l yX1_init (Cond.code yX1_init cX1_init 2 none :: wsA) rm_X1_init (nPc D g z (fun q => q = (b, .inr (1, [.null, .null, .null, .null, .null, .null, .int 0]))) [.ref b]) (nQc D b z (z + 186) (hT g b z)) 186 10992 (fA b z) := by
  refine n_met (by decide +kernel) rfl (Nat.le_of_ble_eq_true rfl) ?_
  intro p e s m below meth c Y hk2 hin hr hz hw ls hl
  have hx := Y.1
  have hb := Y.2.1
  have hml := Y.2.2.1
  have hown := Y.2.2.2.1
  have hts := Y.2.2.2.2.1
  have hS : va_S (fA b z) s.heap s.heap [] := va_S.rf
  refine lv_aload_n hx hb dX1_init_0 rfl (lv_at hl 0 rfl) ?_
  refine n_obj Y hl.1 mw_40 (Nat.le_of_ble_eq_true rfl) (Nat.le_of_ble_eq_true rfl) (Nat.le_of_ble_eq_true rfl) dX1_init_1 ?_
  refine lv_aload_n hx hb dX1_init_4 rfl (lv_at hl 0 rfl) ?_
  refine n_new (ci := 0) (fs := [.null, .null, .null, .null, .null, .null]) (T' := fun q => q = (b, .inr (1, [.null, .null, .null, .null, .null, .null, .int 0])) ∨ q = (z, .inr (0, [.null, .null, .null, .null, .null, .null]))) Y hz hw hS rfl inA_X0 tyX0 tyX0_ok mw_41 mw_42 mw_43 (fun j hj => by rcases (show j = 0 ∨ j = 1 ∨ j = 2 ∨ j = 3 ∨ j = 4 ∨ j = 5 by omega) with rfl | rfl | rfl | rfl | rfl | rfl <;> rfl) (Nat.le_of_ble_eq_true rfl) (Nat.le_of_ble_eq_true rfl) ?_ dX1_init_5 (fun H hw hz hS => ?_)
  · rintro q (h | h)
    · exact Or.inr h
    · exact Or.inl h
  replace hz : H.size = z + 1 := hz
  refine W.widen (k := 1) (n := 6) (Nat.le_of_ble_eq_true rfl) (Nat.le_of_ble_eq_true rfl) ?_
  refine lv_dup hx hb dX1_init_8 rfl ?_
  refine n_callIN (n := 0) (T' := fun q => q = (b, .inr (1, [.null, .null, .null, .null, .null, .null, .int 0])) ∨ bT g (z) (z + 1) q) (As := []) (rest := [.ref (z), .ref b]) Y hk2 hl.1 hz hw hS (Or.inr (Nat.le_refl z)) (fun q hq => Or.inr (Nat.le_trans (Nat.le_add_right z _) hq)) (kX0_init (b := z) (z := z + 1) (Nat.lt_succ_self _)) (fun q h => (Or.inr h)) (List.mem_append_right _ (List.mem_map.mpr ⟨_, List.mem_of_getElem? (i := 0) rfl, rfl⟩)) mw_56 mw_43 mw_57 rfl (by decide +kernel) rfl rfl ⟨Nat.le_of_ble_eq_true rfl, Nat.le_of_ble_eq_true rfl⟩ ⟨Nat.le_of_ble_eq_true rfl, Nat.le_of_ble_eq_true rfl⟩ rfl rfl (Nat.le_of_ble_eq_true rfl) (oX1_init_1 hbz) dX1_init_9 (fun H locs hw hz hS => ?_)
  replace hz : H.size = z + 49 := hz
  refine W.widen (k := 49) (n := 4534) (Nat.le_of_ble_eq_true rfl) (Nat.le_of_ble_eq_true rfl) ?_
  refine n_putF (T' := fun q => q = (b, .inr (1, [.ref (z), .null, .null, .null, .null, .null, .int 0])) ∨ bT g (z) (z + 1) q) Y hin hw hS (Or.inl rfl) (Or.inl rfl) rfl inA_X1 tyX1 tyX1_ok nmX1 0 (by decide) mw_44 rfl rfl rfl rfl (Nat.le_of_ble_eq_true rfl) (oX1_init_2 hbz) dX1_init_12 (fun H locs hw hz2 hS => ?_)
  replace hz := hz2.trans hz
  clear hz2
  refine lv_aload_n hx hb dX1_init_15 rfl (lv_at hl 0 rfl) ?_
  refine lv_bipush (v := (10 : Int32)) hx hb dX1_init_16 (by decide) ?_
  refine n_newq (T' := fun q => q = (b, .inr (1, [.ref (z), .null, .null, .null, .null, .null, .int 0])) ∨ bT g (z) (z + 1) q ∨ q = (z + 49, .inl (g.2.2.2.2, 10, .inr (.inr (.inr (.inr (fun _ => none))))))) Y hz hw hS mw_45 hk2.2.2 3 rfl (by decide) rfl (by decide) (Nat.le_of_ble_eq_true rfl) (Nat.le_of_ble_eq_true rfl) ?_ dX1_init_18 (fun H hw hz hS => ?_)
  · rintro q (h | h | h)
    · exact Or.inr (Or.inl h)
    · exact Or.inr (Or.inr h)
    · exact Or.inl h
  replace hz : H.size = z + 50 := hz
  refine W.widen (k := 50) (n := 4544) (Nat.le_of_ble_eq_true rfl) (Nat.le_of_ble_eq_true rfl) ?_
  refine n_putF (T' := fun q => q = (b, .inr (1, [.ref (z), .ref (z + 49), .null, .null, .null, .null, .int 0])) ∨ bT g (z) (z + 1) q ∨ q = (z + 49, .inl (g.2.2.2.2, 10, .inr (.inr (.inr (.inr (fun _ => none))))))) Y hin hw hS (Or.inl rfl) (Or.inl rfl) rfl inA_X1 tyX1 tyX1_ok nmX1 1 (by decide) mw_46 rfl rfl rfl rfl (Nat.le_of_ble_eq_true rfl) (oX1_init_3 hbz) dX1_init_21 (fun H locs hw hz2 hS => ?_)
  replace hz := hz2.trans hz
  clear hz2
  refine lv_aload_n hx hb dX1_init_24 rfl (lv_at hl 0 rfl) ?_
  refine n_new (ci := 3) (fs := [.null, .int 0, .int 0]) (T' := fun q => q = (b, .inr (1, [.ref (z), .ref (z + 49), .null, .null, .null, .null, .int 0])) ∨ bT g (z) (z + 1) q ∨ q = (z + 49, .inl (g.2.2.2.2, 10, .inr (.inr (.inr (.inr (fun _ => none)))))) ∨ q = (z + 50, .inr (3, [.null, .int 0, .int 0]))) Y hz hw hS rfl inA_X3 tyX3 tyX3_ok mw_47 mw_28 mw_29 (fun j hj => by rcases (show j = 0 ∨ j = 1 ∨ j = 2 by omega) with rfl | rfl | rfl <;> rfl) (Nat.le_of_ble_eq_true rfl) (Nat.le_of_ble_eq_true rfl) ?_ dX1_init_25 (fun H hw hz hS => ?_)
  · rintro q (h | h | h | h)
    · exact Or.inr (Or.inl h)
    · exact Or.inr (Or.inr (Or.inl h))
    · exact Or.inr (Or.inr (Or.inr h))
    · exact Or.inl h
  replace hz : H.size = z + 51 := hz
  refine W.widen (k := 51) (n := 4547) (Nat.le_of_ble_eq_true rfl) (Nat.le_of_ble_eq_true rfl) ?_
  refine lv_dup hx hb dX1_init_28 rfl ?_
  refine lv_bipush (v := (100 : Int32)) hx hb dX1_init_29 (by decide) ?_
  refine n_callI (n := 1) (T' := fun q => q = (b, .inr (1, [.ref (z), .ref (z + 49), .null, .null, .null, .null, .int 0])) ∨ bT g (z) (z + 1) q ∨ q = (z + 49, .inl (g.2.2.2.2, 10, .inr (.inr (.inr (.inr (fun _ => none)))))) ∨ wT g (z + 50) (z + 51) 100 q) (As := [.int (100 : Int32)]) (rest := [.ref (z + 50), .ref b]) Y hk2 hl.1 hz hw hS (Or.inr (Nat.le_add_right z _)) (fun q hq => Or.inr (Nat.le_trans (Nat.le_add_right z _) hq)) (kX3_init (b := z + 50) (z := z + 51) (r := 100) (Nat.lt_succ_self _) (by decide)) (fun q h => (Or.inr (Or.inr (Or.inr h)))) mw_69 mw_32 mw_29 mw_33 rfl (by decide +kernel) rfl rfl ⟨Nat.le_of_ble_eq_true rfl, Nat.le_of_ble_eq_true rfl⟩ ⟨Nat.le_of_ble_eq_true rfl, Nat.le_of_ble_eq_true rfl⟩ rfl rfl (Nat.le_of_ble_eq_true rfl) (oX1_init_4 hbz) dX1_init_31 (fun H locs hw hz hS => ?_)
  replace hz : H.size = z + 52 := hz
  refine W.widen (k := 52) (n := 4647) (Nat.le_of_ble_eq_true rfl) (Nat.le_of_ble_eq_true rfl) ?_
  refine n_putF (T' := fun q => q = (b, .inr (1, [.ref (z), .ref (z + 49), .ref (z + 50), .null, .null, .null, .int 0])) ∨ bT g (z) (z + 1) q ∨ q = (z + 49, .inl (g.2.2.2.2, 10, .inr (.inr (.inr (.inr (fun _ => none)))))) ∨ wT g (z + 50) (z + 51) 100 q) Y hin hw hS (Or.inl rfl) (Or.inl rfl) rfl inA_X1 tyX1 tyX1_ok nmX1 2 (by decide) mw_48 rfl rfl rfl rfl (Nat.le_of_ble_eq_true rfl) (oX1_init_5 hbz) dX1_init_34 (fun H locs hw hz2 hS => ?_)
  replace hz := hz2.trans hz
  clear hz2
  refine lv_aload_n hx hb dX1_init_37 rfl (lv_at hl 0 rfl) ?_
  refine n_new (ci := 3) (fs := [.null, .int 0, .int 0]) (T' := fun q => q = (b, .inr (1, [.ref (z), .ref (z + 49), .ref (z + 50), .null, .null, .null, .int 0])) ∨ bT g (z) (z + 1) q ∨ q = (z + 49, .inl (g.2.2.2.2, 10, .inr (.inr (.inr (.inr (fun _ => none)))))) ∨ wT g (z + 50) (z + 51) 100 q ∨ q = (z + 52, .inr (3, [.null, .int 0, .int 0]))) Y hz hw hS rfl inA_X3 tyX3 tyX3_ok mw_47 mw_28 mw_29 (fun j hj => by rcases (show j = 0 ∨ j = 1 ∨ j = 2 by omega) with rfl | rfl | rfl <;> rfl) (Nat.le_of_ble_eq_true rfl) (Nat.le_of_ble_eq_true rfl) ?_ dX1_init_38 (fun H hw hz hS => ?_)
  · rintro q (h | h | h | h | h)
    · exact Or.inr (Or.inl h)
    · exact Or.inr (Or.inr (Or.inl h))
    · exact Or.inr (Or.inr (Or.inr (Or.inl h)))
    · exact Or.inr (Or.inr (Or.inr (Or.inr h)))
    · exact Or.inl h
  replace hz : H.size = z + 53 := hz
  refine W.widen (k := 53) (n := 4650) (Nat.le_of_ble_eq_true rfl) (Nat.le_of_ble_eq_true rfl) ?_
  refine lv_dup hx hb dX1_init_41 rfl ?_
  refine lv_bipush (v := (100 : Int32)) hx hb dX1_init_42 (by decide) ?_
  refine n_callI (n := 1) (T' := fun q => q = (b, .inr (1, [.ref (z), .ref (z + 49), .ref (z + 50), .null, .null, .null, .int 0])) ∨ bT g (z) (z + 1) q ∨ q = (z + 49, .inl (g.2.2.2.2, 10, .inr (.inr (.inr (.inr (fun _ => none)))))) ∨ wT g (z + 50) (z + 51) 100 q ∨ wT g (z + 52) (z + 53) 100 q) (As := [.int (100 : Int32)]) (rest := [.ref (z + 52), .ref b]) Y hk2 hl.1 hz hw hS (Or.inr (Nat.le_add_right z _)) (fun q hq => Or.inr (Nat.le_trans (Nat.le_add_right z _) hq)) (kX3_init (b := z + 52) (z := z + 53) (r := 100) (Nat.lt_succ_self _) (by decide)) (fun q h => (Or.inr (Or.inr (Or.inr (Or.inr h))))) mw_69 mw_32 mw_29 mw_33 rfl (by decide +kernel) rfl rfl ⟨Nat.le_of_ble_eq_true rfl, Nat.le_of_ble_eq_true rfl⟩ ⟨Nat.le_of_ble_eq_true rfl, Nat.le_of_ble_eq_true rfl⟩ rfl rfl (Nat.le_of_ble_eq_true rfl) (oX1_init_6 hbz) dX1_init_44 (fun H locs hw hz hS => ?_)
  replace hz : H.size = z + 54 := hz
  refine W.widen (k := 54) (n := 4750) (Nat.le_of_ble_eq_true rfl) (Nat.le_of_ble_eq_true rfl) ?_
  refine n_putF (T' := fun q => q = (b, .inr (1, [.ref (z), .ref (z + 49), .ref (z + 50), .ref (z + 52), .null, .null, .int 0])) ∨ bT g (z) (z + 1) q ∨ q = (z + 49, .inl (g.2.2.2.2, 10, .inr (.inr (.inr (.inr (fun _ => none)))))) ∨ wT g (z + 50) (z + 51) 100 q ∨ wT g (z + 52) (z + 53) 100 q) Y hin hw hS (Or.inl rfl) (Or.inl rfl) rfl inA_X1 tyX1 tyX1_ok nmX1 3 (by decide) mw_49 rfl rfl rfl rfl (Nat.le_of_ble_eq_true rfl) (oX1_init_7 hbz) dX1_init_47 (fun H locs hw hz2 hS => ?_)
  replace hz := hz2.trans hz
  clear hz2
  refine lv_aload_n hx hb dX1_init_50 rfl (lv_at hl 0 rfl) ?_
  refine n_new (ci := 3) (fs := [.null, .int 0, .int 0]) (T' := fun q => q = (b, .inr (1, [.ref (z), .ref (z + 49), .ref (z + 50), .ref (z + 52), .null, .null, .int 0])) ∨ bT g (z) (z + 1) q ∨ q = (z + 49, .inl (g.2.2.2.2, 10, .inr (.inr (.inr (.inr (fun _ => none)))))) ∨ wT g (z + 50) (z + 51) 100 q ∨ wT g (z + 52) (z + 53) 100 q ∨ q = (z + 54, .inr (3, [.null, .int 0, .int 0]))) Y hz hw hS rfl inA_X3 tyX3 tyX3_ok mw_47 mw_28 mw_29 (fun j hj => by rcases (show j = 0 ∨ j = 1 ∨ j = 2 by omega) with rfl | rfl | rfl <;> rfl) (Nat.le_of_ble_eq_true rfl) (Nat.le_of_ble_eq_true rfl) ?_ dX1_init_51 (fun H hw hz hS => ?_)
  · rintro q (h | h | h | h | h | h)
    · exact Or.inr (Or.inl h)
    · exact Or.inr (Or.inr (Or.inl h))
    · exact Or.inr (Or.inr (Or.inr (Or.inl h)))
    · exact Or.inr (Or.inr (Or.inr (Or.inr (Or.inl h))))
    · exact Or.inr (Or.inr (Or.inr (Or.inr (Or.inr h))))
    · exact Or.inl h
  replace hz : H.size = z + 55 := hz
  refine W.widen (k := 55) (n := 4753) (Nat.le_of_ble_eq_true rfl) (Nat.le_of_ble_eq_true rfl) ?_
  refine lv_dup hx hb dX1_init_54 rfl ?_
  refine lv_sipush (v := (300 : Int32)) hx hb dX1_init_55 (by decide) ?_
  refine n_callI (n := 1) (T' := fun q => q = (b, .inr (1, [.ref (z), .ref (z + 49), .ref (z + 50), .ref (z + 52), .null, .null, .int 0])) ∨ bT g (z) (z + 1) q ∨ q = (z + 49, .inl (g.2.2.2.2, 10, .inr (.inr (.inr (.inr (fun _ => none)))))) ∨ wT g (z + 50) (z + 51) 100 q ∨ wT g (z + 52) (z + 53) 100 q ∨ wT g (z + 54) (z + 55) 300 q) (As := [.int (300 : Int32)]) (rest := [.ref (z + 54), .ref b]) Y hk2 hl.1 hz hw hS (Or.inr (Nat.le_add_right z _)) (fun q hq => Or.inr (Nat.le_trans (Nat.le_add_right z _) hq)) (kX3_init (b := z + 54) (z := z + 55) (r := 300) (Nat.lt_succ_self _) (by decide)) (fun q h => (Or.inr (Or.inr (Or.inr (Or.inr (Or.inr h)))))) mw_69 mw_32 mw_29 mw_33 rfl (by decide +kernel) rfl rfl ⟨Nat.le_of_ble_eq_true rfl, Nat.le_of_ble_eq_true rfl⟩ ⟨Nat.le_of_ble_eq_true rfl, Nat.le_of_ble_eq_true rfl⟩ rfl rfl (Nat.le_of_ble_eq_true rfl) (oX1_init_8 hbz) dX1_init_58 (fun H locs hw hz hS => ?_)
  replace hz : H.size = z + 56 := hz
  refine W.widen (k := 56) (n := 5053) (Nat.le_of_ble_eq_true rfl) (Nat.le_of_ble_eq_true rfl) ?_
  refine n_putF (T' := fun q => q = (b, .inr (1, [.ref (z), .ref (z + 49), .ref (z + 50), .ref (z + 52), .ref (z + 54), .null, .int 0])) ∨ bT g (z) (z + 1) q ∨ q = (z + 49, .inl (g.2.2.2.2, 10, .inr (.inr (.inr (.inr (fun _ => none)))))) ∨ wT g (z + 50) (z + 51) 100 q ∨ wT g (z + 52) (z + 53) 100 q ∨ wT g (z + 54) (z + 55) 300 q) Y hin hw hS (Or.inl rfl) (Or.inl rfl) rfl inA_X1 tyX1 tyX1_ok nmX1 4 (by decide) mw_50 rfl rfl rfl rfl (Nat.le_of_ble_eq_true rfl) (oX1_init_9 hbz) dX1_init_61 (fun H locs hw hz2 hS => ?_)
  replace hz := hz2.trans hz
  clear hz2
  refine lv_aload_n hx hb dX1_init_64 rfl (lv_at hl 0 rfl) ?_
  refine n_new (ci := 3) (fs := [.null, .int 0, .int 0]) (T' := fun q => q = (b, .inr (1, [.ref (z), .ref (z + 49), .ref (z + 50), .ref (z + 52), .ref (z + 54), .null, .int 0])) ∨ bT g (z) (z + 1) q ∨ q = (z + 49, .inl (g.2.2.2.2, 10, .inr (.inr (.inr (.inr (fun _ => none)))))) ∨ wT g (z + 50) (z + 51) 100 q ∨ wT g (z + 52) (z + 53) 100 q ∨ wT g (z + 54) (z + 55) 300 q ∨ q = (z + 56, .inr (3, [.null, .int 0, .int 0]))) Y hz hw hS rfl inA_X3 tyX3 tyX3_ok mw_47 mw_28 mw_29 (fun j hj => by rcases (show j = 0 ∨ j = 1 ∨ j = 2 by omega) with rfl | rfl | rfl <;> rfl) (Nat.le_of_ble_eq_true rfl) (Nat.le_of_ble_eq_true rfl) ?_ dX1_init_65 (fun H hw hz hS => ?_)
  · rintro q (h | h | h | h | h | h | h)
    · exact Or.inr (Or.inl h)
    · exact Or.inr (Or.inr (Or.inl h))
    · exact Or.inr (Or.inr (Or.inr (Or.inl h)))
    · exact Or.inr (Or.inr (Or.inr (Or.inr (Or.inl h))))
    · exact Or.inr (Or.inr (Or.inr (Or.inr (Or.inr (Or.inl h)))))
    · exact Or.inr (Or.inr (Or.inr (Or.inr (Or.inr (Or.inr h)))))
    · exact Or.inl h
  replace hz : H.size = z + 57 := hz
  refine W.widen (k := 57) (n := 5056) (Nat.le_of_ble_eq_true rfl) (Nat.le_of_ble_eq_true rfl) ?_
  refine lv_dup hx hb dX1_init_68 rfl ?_
  refine lv_sipush (v := (300 : Int32)) hx hb dX1_init_69 (by decide) ?_
  refine n_callI (n := 1) (T' := fun q => q = (b, .inr (1, [.ref (z), .ref (z + 49), .ref (z + 50), .ref (z + 52), .ref (z + 54), .null, .int 0])) ∨ bT g (z) (z + 1) q ∨ q = (z + 49, .inl (g.2.2.2.2, 10, .inr (.inr (.inr (.inr (fun _ => none)))))) ∨ wT g (z + 50) (z + 51) 100 q ∨ wT g (z + 52) (z + 53) 100 q ∨ wT g (z + 54) (z + 55) 300 q ∨ wT g (z + 56) (z + 57) 300 q) (As := [.int (300 : Int32)]) (rest := [.ref (z + 56), .ref b]) Y hk2 hl.1 hz hw hS (Or.inr (Nat.le_add_right z _)) (fun q hq => Or.inr (Nat.le_trans (Nat.le_add_right z _) hq)) (kX3_init (b := z + 56) (z := z + 57) (r := 300) (Nat.lt_succ_self _) (by decide)) (fun q h => (Or.inr (Or.inr (Or.inr (Or.inr (Or.inr (Or.inr h))))))) mw_69 mw_32 mw_29 mw_33 rfl (by decide +kernel) rfl rfl ⟨Nat.le_of_ble_eq_true rfl, Nat.le_of_ble_eq_true rfl⟩ ⟨Nat.le_of_ble_eq_true rfl, Nat.le_of_ble_eq_true rfl⟩ rfl rfl (Nat.le_of_ble_eq_true rfl) (oX1_init_10 hbz) dX1_init_72 (fun H locs hw hz hS => ?_)
  replace hz : H.size = z + 58 := hz
  refine W.widen (k := 58) (n := 5356) (Nat.le_of_ble_eq_true rfl) (Nat.le_of_ble_eq_true rfl) ?_
  refine n_putF (T' := fun q => q = (b, .inr (1, [.ref (z), .ref (z + 49), .ref (z + 50), .ref (z + 52), .ref (z + 54), .ref (z + 56), .int 0])) ∨ bT g (z) (z + 1) q ∨ q = (z + 49, .inl (g.2.2.2.2, 10, .inr (.inr (.inr (.inr (fun _ => none)))))) ∨ wT g (z + 50) (z + 51) 100 q ∨ wT g (z + 52) (z + 53) 100 q ∨ wT g (z + 54) (z + 55) 300 q ∨ wT g (z + 56) (z + 57) 300 q) Y hin hw hS (Or.inl rfl) (Or.inl rfl) rfl inA_X1 tyX1 tyX1_ok nmX1 5 (by decide) mw_51 rfl rfl rfl rfl (Nat.le_of_ble_eq_true rfl) (oX1_init_11 hbz) dX1_init_75 (fun H locs hw hz2 hS => ?_)
  replace hz := hz2.trans hz
  clear hz2
  refine lv_iconst (v := (0 : Int32)) hx hb dX1_init_78 (by decide) ?_
  refine lv_istore_n (lv' := [(1, .int (0 : Int32)), (0, .ref b)]) hx hb dX1_init_79 rfl hl (by decide) rfl (fun ls hl => ?_)
  refine lv_iload_n hx hb dX1_init_80 rfl (lv_at hl 0 rfl) ?_
  refine lv_bipush (v := (10 : Int32)) hx hb dX1_init_81 (by decide) ?_
  refine lv_icmp_ge (tgt := 116) hx hb dX1_init_83 (by decide) (fun hc => ?_) (fun hc => ?_)
  · exact absurd hc (by decide)
  clear hc
  refine lv_aload_n hx hb dX1_init_86 rfl (lv_at hl 1 rfl) ?_
  refine n_get (v := .ref (z + 49)) Y hw (Or.inl rfl) rfl inA_X1 1 (by decide) mw_46 rfl dX1_init_87 ?_
  refine lv_iload_n hx hb dX1_init_90 rfl (lv_at hl 0 rfl) ?_
  refine n_new (ci := 2) (fs := [.null, .int 0]) (T' := fun q => q = (b, .inr (1, [.ref (z), .ref (z + 49), .ref (z + 50), .ref (z + 52), .ref (z + 54), .ref (z + 56), .int 0])) ∨ bT g (z) (z + 1) q ∨ q = (z + 49, .inl (g.2.2.2.2, 10, .inr (.inr (.inr (.inr (fun _ => none)))))) ∨ wT g (z + 50) (z + 51) 100 q ∨ wT g (z + 52) (z + 53) 100 q ∨ wT g (z + 54) (z + 55) 300 q ∨ wT g (z + 56) (z + 57) 300 q ∨ q = (z + 58, .inr (2, [.null, .int 0]))) Y hz hw hS rfl inA_X2 tyX2 tyX2_ok mw_45 mw_14 mw_15 (fun j hj => by rcases (show j = 0 ∨ j = 1 by omega) with rfl | rfl <;> rfl) (Nat.le_of_ble_eq_true rfl) (Nat.le_of_ble_eq_true rfl) ?_ dX1_init_91 (fun H hw hz hS => ?_)
  · rintro q (h | h | h | h | h | h | h | h)
    · exact Or.inr (Or.inl h)
    · exact Or.inr (Or.inr (Or.inl h))
    · exact Or.inr (Or.inr (Or.inr (Or.inl h)))
    · exact Or.inr (Or.inr (Or.inr (Or.inr (Or.inl h))))
    · exact Or.inr (Or.inr (Or.inr (Or.inr (Or.inr (Or.inl h)))))
    · exact Or.inr (Or.inr (Or.inr (Or.inr (Or.inr (Or.inr (Or.inl h))))))
    · exact Or.inr (Or.inr (Or.inr (Or.inr (Or.inr (Or.inr (Or.inr h))))))
    · exact Or.inl h
  replace hz : H.size = z + 59 := hz
  refine W.widen (k := 59) (n := 5358) (Nat.le_of_ble_eq_true rfl) (Nat.le_of_ble_eq_true rfl) ?_
  refine lv_dup hx hb dX1_init_94 rfl ?_
  refine lv_bipush (v := (8 : Int32)) hx hb dX1_init_95 (by decide) ?_
  refine lv_bipush (v := (9 : Int32)) hx hb dX1_init_97 (by decide) ?_
  refine lv_iload_n hx hb dX1_init_99 rfl (lv_at hl 0 rfl) ?_
  refine lv_isub hx hb dX1_init_100 ?_
  rw [show (9 : Int32) - (0 : Int32) = (9 : Int32) by decide]
  refine va_mmin hx hb (hml.trans hl.1.symm) hown (hts _ mw_52) (hts _ mw_53) (hts _ mw_54) (hts _ mw_55) (Nat.le_of_ble_eq_true rfl) (Nat.le_of_ble_eq_true rfl) (Nat.le_of_ble_eq_true rfl) (Nat.le_of_ble_eq_true rfl) dX1_init_101 ?_
  rw [show (if (9 : Int32) < (8 : Int32) then (9 : Int32) else (8 : Int32)) = (8 : Int32) by decide]
  refine lv_bipush (v := (100 : Int32)) hx hb dX1_init_104 (by decide) ?_
  refine n_callI (n := 2) (T' := fun q => q = (b, .inr (1, [.ref (z), .ref (z + 49), .ref (z + 50), .ref (z + 52), .ref (z + 54), .ref (z + 56), .int 0])) ∨ bT g (z) (z + 1) q ∨ q = (z + 49, .inl (g.2.2.2.2, 10, .inr (.inr (.inr (.inr (fun _ => none)))))) ∨ wT g (z + 50) (z + 51) 100 q ∨ wT g (z + 52) (z + 53) 100 q ∨ wT g (z + 54) (z + 55) 300 q ∨ wT g (z + 56) (z + 57) 300 q ∨ pT g (z + 58) (z + 59) 8 100 q) (As := [.int (8 : Int32), .int (100 : Int32)]) (rest := [.ref (z + 58), .int (0 : Int32), .ref (z + 49)]) Y hk2 hl.1 hz hw hS (Or.inr (Nat.le_add_right z _)) (fun q hq => Or.inr (Nat.le_trans (Nat.le_add_right z _) hq)) (kX2_init (b := z + 58) (z := z + 59) (t := 8) (r := 100) (Nat.lt_succ_self _) (by decide) (by decide)) (fun q h => (Or.inr (Or.inr (Or.inr (Or.inr (Or.inr (Or.inr (Or.inr h)))))))) mw_70 mw_23 mw_15 mw_24 rfl (by decide +kernel) rfl rfl ⟨Nat.le_of_ble_eq_true rfl, Nat.le_of_ble_eq_true rfl⟩ ⟨Nat.le_of_ble_eq_true rfl, Nat.le_of_ble_eq_true rfl⟩ rfl rfl (Nat.le_of_ble_eq_true rfl) (oX1_init_12 hbz) dX1_init_106 (fun H locs hw hz hS => ?_)
  replace hz : H.size = z + 78 := hz
  refine W.widen (k := 78) (n := 6294) (Nat.le_of_ble_eq_true rfl) (Nat.le_of_ble_eq_true rfl) ?_
  refine n_aast (T' := fun q => q = (b, .inr (1, [.ref (z), .ref (z + 49), .ref (z + 50), .ref (z + 52), .ref (z + 54), .ref (z + 56), .int 0])) ∨ bT g (z) (z + 1) q ∨ q = (z + 49, .inl (g.2.2.2.2, 10, .inr (.inr (.inr (.inr (va_up (fun _ => none) 0 (some (z + 58)))))))) ∨ wT g (z + 50) (z + 51) 100 q ∨ wT g (z + 52) (z + 53) 100 q ∨ wT g (z + 54) (z + 55) 300 q ∨ wT g (z + 56) (z + 57) 300 q ∨ pT g (z + 58) (z + 59) 8 100 q) (r := (RX2, TX2, 2)) Y hw hS (Or.inr (Nat.le_add_right z _)) (Or.inr (Or.inr (Or.inl rfl))) 3 rfl (Or.inr (Or.inr (Or.inr (Or.inr (Or.inr (Or.inr (Or.inr (Or.inl rfl)))))))) rfl (by unfold vp_in; decide) (oX1_init_13 hbz) dX1_init_109 (fun H locs hw hz2 hS => ?_)
  replace hz := hz2.trans hz
  clear hz2
  refine lv_iinc (v := (1 : Int32)) (lv' := [(1, .int (1 : Int32)), (0, .ref b)]) hx hb dX1_init_110 hl (k := 0) rfl (by decide) (by decide) rfl (fun ls hl => ?_)
  refine lv_goto (tgt := 80) hx hb dX1_init_113 (by decide) ?_
  refine lv_iload_n hx hb dX1_init_80 rfl (lv_at hl 0 rfl) ?_
  refine lv_bipush (v := (10 : Int32)) hx hb dX1_init_81 (by decide) ?_
  refine lv_icmp_ge (tgt := 116) hx hb dX1_init_83 (by decide) (fun hc => ?_) (fun hc => ?_)
  · exact absurd hc (by decide)
  clear hc
  refine lv_aload_n hx hb dX1_init_86 rfl (lv_at hl 1 rfl) ?_
  refine n_get (v := .ref (z + 49)) Y hw (Or.inl rfl) rfl inA_X1 1 (by decide) mw_46 rfl dX1_init_87 ?_
  refine lv_iload_n hx hb dX1_init_90 rfl (lv_at hl 0 rfl) ?_
  refine n_new (ci := 2) (fs := [.null, .int 0]) (T' := fun q => q = (b, .inr (1, [.ref (z), .ref (z + 49), .ref (z + 50), .ref (z + 52), .ref (z + 54), .ref (z + 56), .int 0])) ∨ bT g (z) (z + 1) q ∨ q = (z + 49, .inl (g.2.2.2.2, 10, .inr (.inr (.inr (.inr (va_up (fun _ => none) 0 (some (z + 58)))))))) ∨ wT g (z + 50) (z + 51) 100 q ∨ wT g (z + 52) (z + 53) 100 q ∨ wT g (z + 54) (z + 55) 300 q ∨ wT g (z + 56) (z + 57) 300 q ∨ pT g (z + 58) (z + 59) 8 100 q ∨ q = (z + 78, .inr (2, [.null, .int 0]))) Y hz hw hS rfl inA_X2 tyX2 tyX2_ok mw_45 mw_14 mw_15 (fun j hj => by rcases (show j = 0 ∨ j = 1 by omega) with rfl | rfl <;> rfl) (Nat.le_of_ble_eq_true rfl) (Nat.le_of_ble_eq_true rfl) ?_ dX1_init_91 (fun H hw hz hS => ?_)
  · rintro q (h | h | h | h | h | h | h | h | h)
    · exact Or.inr (Or.inl h)
    · exact Or.inr (Or.inr (Or.inl h))
    · exact Or.inr (Or.inr (Or.inr (Or.inl h)))
    · exact Or.inr (Or.inr (Or.inr (Or.inr (Or.inl h))))
    · exact Or.inr (Or.inr (Or.inr (Or.inr (Or.inr (Or.inl h)))))
    · exact Or.inr (Or.inr (Or.inr (Or.inr (Or.inr (Or.inr (Or.inl h))))))
    · exact Or.inr (Or.inr (Or.inr (Or.inr (Or.inr (Or.inr (Or.inr (Or.inl h)))))))
    · exact Or.inr (Or.inr (Or.inr (Or.inr (Or.inr (Or.inr (Or.inr (Or.inr h)))))))
    · exact Or.inl h
  replace hz : H.size = z + 79 := hz
  refine W.widen (k := 79) (n := 6296) (Nat.le_of_ble_eq_true rfl) (Nat.le_of_ble_eq_true rfl) ?_
  refine lv_dup hx hb dX1_init_94 rfl ?_
  refine lv_bipush (v := (8 : Int32)) hx hb dX1_init_95 (by decide) ?_
  refine lv_bipush (v := (9 : Int32)) hx hb dX1_init_97 (by decide) ?_
  refine lv_iload_n hx hb dX1_init_99 rfl (lv_at hl 0 rfl) ?_
  refine lv_isub hx hb dX1_init_100 ?_
  rw [show (9 : Int32) - (1 : Int32) = (8 : Int32) by decide]
  refine va_mmin hx hb (hml.trans hl.1.symm) hown (hts _ mw_52) (hts _ mw_53) (hts _ mw_54) (hts _ mw_55) (Nat.le_of_ble_eq_true rfl) (Nat.le_of_ble_eq_true rfl) (Nat.le_of_ble_eq_true rfl) (Nat.le_of_ble_eq_true rfl) dX1_init_101 ?_
  rw [show (if (8 : Int32) < (8 : Int32) then (8 : Int32) else (8 : Int32)) = (8 : Int32) by decide]
  refine lv_bipush (v := (100 : Int32)) hx hb dX1_init_104 (by decide) ?_
  refine n_callI (n := 2) (T' := fun q => q = (b, .inr (1, [.ref (z), .ref (z + 49), .ref (z + 50), .ref (z + 52), .ref (z + 54), .ref (z + 56), .int 0])) ∨ bT g (z) (z + 1) q ∨ q = (z + 49, .inl (g.2.2.2.2, 10, .inr (.inr (.inr (.inr (va_up (fun _ => none) 0 (some (z + 58)))))))) ∨ wT g (z + 50) (z + 51) 100 q ∨ wT g (z + 52) (z + 53) 100 q ∨ wT g (z + 54) (z + 55) 300 q ∨ wT g (z + 56) (z + 57) 300 q ∨ pT g (z + 58) (z + 59) 8 100 q ∨ pT g (z + 78) (z + 79) 8 100 q) (As := [.int (8 : Int32), .int (100 : Int32)]) (rest := [.ref (z + 78), .int (1 : Int32), .ref (z + 49)]) Y hk2 hl.1 hz hw hS (Or.inr (Nat.le_add_right z _)) (fun q hq => Or.inr (Nat.le_trans (Nat.le_add_right z _) hq)) (kX2_init (b := z + 78) (z := z + 79) (t := 8) (r := 100) (Nat.lt_succ_self _) (by decide) (by decide)) (fun q h => (Or.inr (Or.inr (Or.inr (Or.inr (Or.inr (Or.inr (Or.inr (Or.inr h))))))))) mw_70 mw_23 mw_15 mw_24 rfl (by decide +kernel) rfl rfl ⟨Nat.le_of_ble_eq_true rfl, Nat.le_of_ble_eq_true rfl⟩ ⟨Nat.le_of_ble_eq_true rfl, Nat.le_of_ble_eq_true rfl⟩ rfl rfl (Nat.le_of_ble_eq_true rfl) (oX1_init_14 hbz) dX1_init_106 (fun H locs hw hz hS => ?_)
  replace hz : H.size = z + 98 := hz
  refine W.widen (k := 98) (n := 7232) (Nat.le_of_ble_eq_true rfl) (Nat.le_of_ble_eq_true rfl) ?_
  refine n_aast (T' := fun q => q = (b, .inr (1, [.ref (z), .ref (z + 49), .ref (z + 50), .ref (z + 52), .ref (z + 54), .ref (z + 56), .int 0])) ∨ bT g (z) (z + 1) q ∨ q = (z + 49, .inl (g.2.2.2.2, 10, .inr (.inr (.inr (.inr (va_up (va_up (fun _ => none) 0 (some (z + 58))) 1 (some (z + 78)))))))) ∨ wT g (z + 50) (z + 51) 100 q ∨ wT g (z + 52) (z + 53) 100 q ∨ wT g (z + 54) (z + 55) 300 q ∨ wT g (z + 56) (z + 57) 300 q ∨ pT g (z + 58) (z + 59) 8 100 q ∨ pT g (z + 78) (z + 79) 8 100 q) (r := (RX2, TX2, 2)) Y hw hS (Or.inr (Nat.le_add_right z _)) (Or.inr (Or.inr (Or.inl rfl))) 3 rfl (Or.inr (Or.inr (Or.inr (Or.inr (Or.inr (Or.inr (Or.inr (Or.inr (Or.inl rfl))))))))) rfl (by unfold vp_in; decide) (oX1_init_15 hbz) dX1_init_109 (fun H locs hw hz2 hS => ?_)
  replace hz := hz2.trans hz
  clear hz2
  refine lv_iinc (v := (2 : Int32)) (lv' := [(1, .int (2 : Int32)), (0, .ref b)]) hx hb dX1_init_110 hl (k := 0) rfl (by decide) (by decide) rfl (fun ls hl => ?_)
  refine lv_goto (tgt := 80) hx hb dX1_init_113 (by decide) ?_
  refine lv_iload_n hx hb dX1_init_80 rfl (lv_at hl 0 rfl) ?_
  refine lv_bipush (v := (10 : Int32)) hx hb dX1_init_81 (by decide) ?_
  refine lv_icmp_ge (tgt := 116) hx hb dX1_init_83 (by decide) (fun hc => ?_) (fun hc => ?_)
  · exact absurd hc (by decide)
  clear hc
  refine lv_aload_n hx hb dX1_init_86 rfl (lv_at hl 1 rfl) ?_
  refine n_get (v := .ref (z + 49)) Y hw (Or.inl rfl) rfl inA_X1 1 (by decide) mw_46 rfl dX1_init_87 ?_
  refine lv_iload_n hx hb dX1_init_90 rfl (lv_at hl 0 rfl) ?_
  refine n_new (ci := 2) (fs := [.null, .int 0]) (T' := fun q => q = (b, .inr (1, [.ref (z), .ref (z + 49), .ref (z + 50), .ref (z + 52), .ref (z + 54), .ref (z + 56), .int 0])) ∨ bT g (z) (z + 1) q ∨ q = (z + 49, .inl (g.2.2.2.2, 10, .inr (.inr (.inr (.inr (va_up (va_up (fun _ => none) 0 (some (z + 58))) 1 (some (z + 78)))))))) ∨ wT g (z + 50) (z + 51) 100 q ∨ wT g (z + 52) (z + 53) 100 q ∨ wT g (z + 54) (z + 55) 300 q ∨ wT g (z + 56) (z + 57) 300 q ∨ pT g (z + 58) (z + 59) 8 100 q ∨ pT g (z + 78) (z + 79) 8 100 q ∨ q = (z + 98, .inr (2, [.null, .int 0]))) Y hz hw hS rfl inA_X2 tyX2 tyX2_ok mw_45 mw_14 mw_15 (fun j hj => by rcases (show j = 0 ∨ j = 1 by omega) with rfl | rfl <;> rfl) (Nat.le_of_ble_eq_true rfl) (Nat.le_of_ble_eq_true rfl) ?_ dX1_init_91 (fun H hw hz hS => ?_)
  · rintro q (h | h | h | h | h | h | h | h | h | h)
    · exact Or.inr (Or.inl h)
    · exact Or.inr (Or.inr (Or.inl h))
    · exact Or.inr (Or.inr (Or.inr (Or.inl h)))
    · exact Or.inr (Or.inr (Or.inr (Or.inr (Or.inl h))))
    · exact Or.inr (Or.inr (Or.inr (Or.inr (Or.inr (Or.inl h)))))
    · exact Or.inr (Or.inr (Or.inr (Or.inr (Or.inr (Or.inr (Or.inl h))))))
    · exact Or.inr (Or.inr (Or.inr (Or.inr (Or.inr (Or.inr (Or.inr (Or.inl h)))))))
    · exact Or.inr (Or.inr (Or.inr (Or.inr (Or.inr (Or.inr (Or.inr (Or.inr (Or.inl h))))))))
    · exact Or.inr (Or.inr (Or.inr (Or.inr (Or.inr (Or.inr (Or.inr (Or.inr (Or.inr h))))))))
    · exact Or.inl h
  replace hz : H.size = z + 99 := hz
  refine W.widen (k := 99) (n := 7234) (Nat.le_of_ble_eq_true rfl) (Nat.le_of_ble_eq_true rfl) ?_
  refine lv_dup hx hb dX1_init_94 rfl ?_
  refine lv_bipush (v := (8 : Int32)) hx hb dX1_init_95 (by decide) ?_
  refine lv_bipush (v := (9 : Int32)) hx hb dX1_init_97 (by decide) ?_
  refine lv_iload_n hx hb dX1_init_99 rfl (lv_at hl 0 rfl) ?_
  refine lv_isub hx hb dX1_init_100 ?_
  rw [show (9 : Int32) - (2 : Int32) = (7 : Int32) by decide]
  refine va_mmin hx hb (hml.trans hl.1.symm) hown (hts _ mw_52) (hts _ mw_53) (hts _ mw_54) (hts _ mw_55) (Nat.le_of_ble_eq_true rfl) (Nat.le_of_ble_eq_true rfl) (Nat.le_of_ble_eq_true rfl) (Nat.le_of_ble_eq_true rfl) dX1_init_101 ?_
  rw [show (if (7 : Int32) < (8 : Int32) then (7 : Int32) else (8 : Int32)) = (7 : Int32) by decide]
  refine lv_bipush (v := (100 : Int32)) hx hb dX1_init_104 (by decide) ?_
  refine n_callI (n := 2) (T' := fun q => q = (b, .inr (1, [.ref (z), .ref (z + 49), .ref (z + 50), .ref (z + 52), .ref (z + 54), .ref (z + 56), .int 0])) ∨ bT g (z) (z + 1) q ∨ q = (z + 49, .inl (g.2.2.2.2, 10, .inr (.inr (.inr (.inr (va_up (va_up (fun _ => none) 0 (some (z + 58))) 1 (some (z + 78)))))))) ∨ wT g (z + 50) (z + 51) 100 q ∨ wT g (z + 52) (z + 53) 100 q ∨ wT g (z + 54) (z + 55) 300 q ∨ wT g (z + 56) (z + 57) 300 q ∨ pT g (z + 58) (z + 59) 8 100 q ∨ pT g (z + 78) (z + 79) 8 100 q ∨ pT g (z + 98) (z + 99) 7 100 q) (As := [.int (7 : Int32), .int (100 : Int32)]) (rest := [.ref (z + 98), .int (2 : Int32), .ref (z + 49)]) Y hk2 hl.1 hz hw hS (Or.inr (Nat.le_add_right z _)) (fun q hq => Or.inr (Nat.le_trans (Nat.le_add_right z _) hq)) (kX2_init (b := z + 98) (z := z + 99) (t := 7) (r := 100) (Nat.lt_succ_self _) (by decide) (by decide)) (fun q h => (Or.inr (Or.inr (Or.inr (Or.inr (Or.inr (Or.inr (Or.inr (Or.inr (Or.inr h)))))))))) mw_70 mw_23 mw_15 mw_24 rfl (by decide +kernel) rfl rfl ⟨Nat.le_of_ble_eq_true rfl, Nat.le_of_ble_eq_true rfl⟩ ⟨Nat.le_of_ble_eq_true rfl, Nat.le_of_ble_eq_true rfl⟩ rfl rfl (Nat.le_of_ble_eq_true rfl) (oX1_init_16 hbz) dX1_init_106 (fun H locs hw hz hS => ?_)
  replace hz : H.size = z + 116 := hz
  refine W.widen (k := 116) (n := 8066) (Nat.le_of_ble_eq_true rfl) (Nat.le_of_ble_eq_true rfl) ?_
  refine n_aast (T' := fun q => q = (b, .inr (1, [.ref (z), .ref (z + 49), .ref (z + 50), .ref (z + 52), .ref (z + 54), .ref (z + 56), .int 0])) ∨ bT g (z) (z + 1) q ∨ q = (z + 49, .inl (g.2.2.2.2, 10, .inr (.inr (.inr (.inr (va_up (va_up (va_up (fun _ => none) 0 (some (z + 58))) 1 (some (z + 78))) 2 (some (z + 98)))))))) ∨ wT g (z + 50) (z + 51) 100 q ∨ wT g (z + 52) (z + 53) 100 q ∨ wT g (z + 54) (z + 55) 300 q ∨ wT g (z + 56) (z + 57) 300 q ∨ pT g (z + 58) (z + 59) 8 100 q ∨ pT g (z + 78) (z + 79) 8 100 q ∨ pT g (z + 98) (z + 99) 7 100 q) (r := (RX2, TX2, 2)) Y hw hS (Or.inr (Nat.le_add_right z _)) (Or.inr (Or.inr (Or.inl rfl))) 3 rfl (Or.inr (Or.inr (Or.inr (Or.inr (Or.inr (Or.inr (Or.inr (Or.inr (Or.inr (Or.inl rfl)))))))))) rfl (by unfold vp_in; decide) (oX1_init_17 hbz) dX1_init_109 (fun H locs hw hz2 hS => ?_)
  replace hz := hz2.trans hz
  clear hz2
  refine lv_iinc (v := (3 : Int32)) (lv' := [(1, .int (3 : Int32)), (0, .ref b)]) hx hb dX1_init_110 hl (k := 0) rfl (by decide) (by decide) rfl (fun ls hl => ?_)
  refine lv_goto (tgt := 80) hx hb dX1_init_113 (by decide) ?_
  refine lv_iload_n hx hb dX1_init_80 rfl (lv_at hl 0 rfl) ?_
  refine lv_bipush (v := (10 : Int32)) hx hb dX1_init_81 (by decide) ?_
  refine lv_icmp_ge (tgt := 116) hx hb dX1_init_83 (by decide) (fun hc => ?_) (fun hc => ?_)
  · exact absurd hc (by decide)
  clear hc
  refine lv_aload_n hx hb dX1_init_86 rfl (lv_at hl 1 rfl) ?_
  refine n_get (v := .ref (z + 49)) Y hw (Or.inl rfl) rfl inA_X1 1 (by decide) mw_46 rfl dX1_init_87 ?_
  refine lv_iload_n hx hb dX1_init_90 rfl (lv_at hl 0 rfl) ?_
  refine n_new (ci := 2) (fs := [.null, .int 0]) (T' := fun q => q = (b, .inr (1, [.ref (z), .ref (z + 49), .ref (z + 50), .ref (z + 52), .ref (z + 54), .ref (z + 56), .int 0])) ∨ bT g (z) (z + 1) q ∨ q = (z + 49, .inl (g.2.2.2.2, 10, .inr (.inr (.inr (.inr (va_up (va_up (va_up (fun _ => none) 0 (some (z + 58))) 1 (some (z + 78))) 2 (some (z + 98)))))))) ∨ wT g (z + 50) (z + 51) 100 q ∨ wT g (z + 52) (z + 53) 100 q ∨ wT g (z + 54) (z + 55) 300 q ∨ wT g (z + 56) (z + 57) 300 q ∨ pT g (z + 58) (z + 59) 8 100 q ∨ pT g (z + 78) (z + 79) 8 100 q ∨ pT g (z + 98) (z + 99) 7 100 q ∨ q = (z + 116, .inr (2, [.null, .int 0]))) Y hz hw hS rfl inA_X2 tyX2 tyX2_ok mw_45 mw_14 mw_15 (fun j hj => by rcases (show j = 0 ∨ j = 1 by omega) with rfl | rfl <;> rfl) (Nat.le_of_ble_eq_true rfl) (Nat.le_of_ble_eq_true rfl) ?_ dX1_init_91 (fun H hw hz hS => ?_)
  · rintro q (h | h | h | h | h | h | h | h | h | h | h)
    · exact Or.inr (Or.inl h)
    · exact Or.inr (Or.inr (Or.inl h))
    · exact Or.inr (Or.inr (Or.inr (Or.inl h)))
    · exact Or.inr (Or.inr (Or.inr (Or.inr (Or.inl h))))
    · exact Or.inr (Or.inr (Or.inr (Or.inr (Or.inr (Or.inl h)))))
    · exact Or.inr (Or.inr (Or.inr (Or.inr (Or.inr (Or.inr (Or.inl h))))))
    · exact Or.inr (Or.inr (Or.inr (Or.inr (Or.inr (Or.inr (Or.inr (Or.inl h)))))))
    · exact Or.inr (Or.inr (Or.inr (Or.inr (Or.inr (Or.inr (Or.inr (Or.inr (Or.inl h))))))))
    · exact Or.inr (Or.inr (Or.inr (Or.inr (Or.inr (Or.inr (Or.inr (Or.inr (Or.inr (Or.inl h)))))))))
    · exact Or.inr (Or.inr (Or.inr (Or.inr (Or.inr (Or.inr (Or.inr (Or.inr (Or.inr (Or.inr h)))))))))
    · exact Or.inl h
  replace hz : H.size = z + 117 := hz
  refine W.widen (k := 117) (n := 8068) (Nat.le_of_ble_eq_true rfl) (Nat.le_of_ble_eq_true rfl) ?_
  refine lv_dup hx hb dX1_init_94 rfl ?_
  refine lv_bipush (v := (8 : Int32)) hx hb dX1_init_95 (by decide) ?_
  refine lv_bipush (v := (9 : Int32)) hx hb dX1_init_97 (by decide) ?_
  refine lv_iload_n hx hb dX1_init_99 rfl (lv_at hl 0 rfl) ?_
  refine lv_isub hx hb dX1_init_100 ?_
  rw [show (9 : Int32) - (3 : Int32) = (6 : Int32) by decide]
  refine va_mmin hx hb (hml.trans hl.1.symm) hown (hts _ mw_52) (hts _ mw_53) (hts _ mw_54) (hts _ mw_55) (Nat.le_of_ble_eq_true rfl) (Nat.le_of_ble_eq_true rfl) (Nat.le_of_ble_eq_true rfl) (Nat.le_of_ble_eq_true rfl) dX1_init_101 ?_
  rw [show (if (6 : Int32) < (8 : Int32) then (6 : Int32) else (8 : Int32)) = (6 : Int32) by decide]
  refine lv_bipush (v := (100 : Int32)) hx hb dX1_init_104 (by decide) ?_
  refine n_callI (n := 2) (T' := fun q => q = (b, .inr (1, [.ref (z), .ref (z + 49), .ref (z + 50), .ref (z + 52), .ref (z + 54), .ref (z + 56), .int 0])) ∨ bT g (z) (z + 1) q ∨ q = (z + 49, .inl (g.2.2.2.2, 10, .inr (.inr (.inr (.inr (va_up (va_up (va_up (fun _ => none) 0 (some (z + 58))) 1 (some (z + 78))) 2 (some (z + 98)))))))) ∨ wT g (z + 50) (z + 51) 100 q ∨ wT g (z + 52) (z + 53) 100 q ∨ wT g (z + 54) (z + 55) 300 q ∨ wT g (z + 56) (z + 57) 300 q ∨ pT g (z + 58) (z + 59) 8 100 q ∨ pT g (z + 78) (z + 79) 8 100 q ∨ pT g (z + 98) (z + 99) 7 100 q ∨ pT g (z + 116) (z + 117) 6 100 q) (As := [.int (6 : Int32), .int (100 : Int32)]) (rest := [.ref (z + 116), .int (3 : Int32), .ref (z + 49)]) Y hk2 hl.1 hz hw hS (Or.inr (Nat.le_add_right z _)) (fun q hq => Or.inr (Nat.le_trans (Nat.le_add_right z _) hq)) (kX2_init (b := z + 116) (z := z + 117) (t := 6) (r := 100) (Nat.lt_succ_self _) (by decide) (by decide)) (fun q h => (Or.inr (Or.inr (Or.inr (Or.inr (Or.inr (Or.inr (Or.inr (Or.inr (Or.inr (Or.inr h))))))))))) mw_70 mw_23 mw_15 mw_24 rfl (by decide +kernel) rfl rfl ⟨Nat.le_of_ble_eq_true rfl, Nat.le_of_ble_eq_true rfl⟩ ⟨Nat.le_of_ble_eq_true rfl, Nat.le_of_ble_eq_true rfl⟩ rfl rfl (Nat.le_of_ble_eq_true rfl) (oX1_init_18 hbz) dX1_init_106 (fun H locs hw hz hS => ?_)
  replace hz : H.size = z + 132 := hz
  refine W.widen (k := 132) (n := 8796) (Nat.le_of_ble_eq_true rfl) (Nat.le_of_ble_eq_true rfl) ?_
  refine n_aast (T' := fun q => q = (b, .inr (1, [.ref (z), .ref (z + 49), .ref (z + 50), .ref (z + 52), .ref (z + 54), .ref (z + 56), .int 0])) ∨ bT g (z) (z + 1) q ∨ q = (z + 49, .inl (g.2.2.2.2, 10, .inr (.inr (.inr (.inr (va_up (va_up (va_up (va_up (fun _ => none) 0 (some (z + 58))) 1 (some (z + 78))) 2 (some (z + 98))) 3 (some (z + 116)))))))) ∨ wT g (z + 50) (z + 51) 100 q ∨ wT g (z + 52) (z + 53) 100 q ∨ wT g (z + 54) (z + 55) 300 q ∨ wT g (z + 56) (z + 57) 300 q ∨ pT g (z + 58) (z + 59) 8 100 q ∨ pT g (z + 78) (z + 79) 8 100 q ∨ pT g (z + 98) (z + 99) 7 100 q ∨ pT g (z + 116) (z + 117) 6 100 q) (r := (RX2, TX2, 2)) Y hw hS (Or.inr (Nat.le_add_right z _)) (Or.inr (Or.inr (Or.inl rfl))) 3 rfl (Or.inr (Or.inr (Or.inr (Or.inr (Or.inr (Or.inr (Or.inr (Or.inr (Or.inr (Or.inr (Or.inl rfl))))))))))) rfl (by unfold vp_in; decide) (oX1_init_19 hbz) dX1_init_109 (fun H locs hw hz2 hS => ?_)
  replace hz := hz2.trans hz
  clear hz2
  refine lv_iinc (v := (4 : Int32)) (lv' := [(1, .int (4 : Int32)), (0, .ref b)]) hx hb dX1_init_110 hl (k := 0) rfl (by decide) (by decide) rfl (fun ls hl => ?_)
  refine lv_goto (tgt := 80) hx hb dX1_init_113 (by decide) ?_
  refine lv_iload_n hx hb dX1_init_80 rfl (lv_at hl 0 rfl) ?_
  refine lv_bipush (v := (10 : Int32)) hx hb dX1_init_81 (by decide) ?_
  refine lv_icmp_ge (tgt := 116) hx hb dX1_init_83 (by decide) (fun hc => ?_) (fun hc => ?_)
  · exact absurd hc (by decide)
  clear hc
  refine lv_aload_n hx hb dX1_init_86 rfl (lv_at hl 1 rfl) ?_
  refine n_get (v := .ref (z + 49)) Y hw (Or.inl rfl) rfl inA_X1 1 (by decide) mw_46 rfl dX1_init_87 ?_
  refine lv_iload_n hx hb dX1_init_90 rfl (lv_at hl 0 rfl) ?_
  refine n_new (ci := 2) (fs := [.null, .int 0]) (T' := fun q => q = (b, .inr (1, [.ref (z), .ref (z + 49), .ref (z + 50), .ref (z + 52), .ref (z + 54), .ref (z + 56), .int 0])) ∨ bT g (z) (z + 1) q ∨ q = (z + 49, .inl (g.2.2.2.2, 10, .inr (.inr (.inr (.inr (va_up (va_up (va_up (va_up (fun _ => none) 0 (some (z + 58))) 1 (some (z + 78))) 2 (some (z + 98))) 3 (some (z + 116)))))))) ∨ wT g (z + 50) (z + 51) 100 q ∨ wT g (z + 52) (z + 53) 100 q ∨ wT g (z + 54) (z + 55) 300 q ∨ wT g (z + 56) (z + 57) 300 q ∨ pT g (z + 58) (z + 59) 8 100 q ∨ pT g (z + 78) (z + 79) 8 100 q ∨ pT g (z + 98) (z + 99) 7 100 q ∨ pT g (z + 116) (z + 117) 6 100 q ∨ q = (z + 132, .inr (2, [.null, .int 0]))) Y hz hw hS rfl inA_X2 tyX2 tyX2_ok mw_45 mw_14 mw_15 (fun j hj => by rcases (show j = 0 ∨ j = 1 by omega) with rfl | rfl <;> rfl) (Nat.le_of_ble_eq_true rfl) (Nat.le_of_ble_eq_true rfl) ?_ dX1_init_91 (fun H hw hz hS => ?_)
  · rintro q (h | h | h | h | h | h | h | h | h | h | h | h)
    · exact Or.inr (Or.inl h)
    · exact Or.inr (Or.inr (Or.inl h))
    · exact Or.inr (Or.inr (Or.inr (Or.inl h)))
    · exact Or.inr (Or.inr (Or.inr (Or.inr (Or.inl h))))
    · exact Or.inr (Or.inr (Or.inr (Or.inr (Or.inr (Or.inl h)))))
    · exact Or.inr (Or.inr (Or.inr (Or.inr (Or.inr (Or.inr (Or.inl h))))))
    · exact Or.inr (Or.inr (Or.inr (Or.inr (Or.inr (Or.inr (Or.inr (Or.inl h)))))))
    · exact Or.inr (Or.inr (Or.inr (Or.inr (Or.inr (Or.inr (Or.inr (Or.inr (Or.inl h))))))))
    · exact Or.inr (Or.inr (Or.inr (Or.inr (Or.inr (Or.inr (Or.inr (Or.inr (Or.inr (Or.inl h)))))))))
    · exact Or.inr (Or.inr (Or.inr (Or.inr (Or.inr (Or.inr (Or.inr (Or.inr (Or.inr (Or.inr (Or.inl h))))))))))
    · exact Or.inr (Or.inr (Or.inr (Or.inr (Or.inr (Or.inr (Or.inr (Or.inr (Or.inr (Or.inr (Or.inr h))))))))))
    · exact Or.inl h
  replace hz : H.size = z + 133 := hz
  refine W.widen (k := 133) (n := 8798) (Nat.le_of_ble_eq_true rfl) (Nat.le_of_ble_eq_true rfl) ?_
  refine lv_dup hx hb dX1_init_94 rfl ?_
  refine lv_bipush (v := (8 : Int32)) hx hb dX1_init_95 (by decide) ?_
  refine lv_bipush (v := (9 : Int32)) hx hb dX1_init_97 (by decide) ?_
  refine lv_iload_n hx hb dX1_init_99 rfl (lv_at hl 0 rfl) ?_
  refine lv_isub hx hb dX1_init_100 ?_
  rw [show (9 : Int32) - (4 : Int32) = (5 : Int32) by decide]
  refine va_mmin hx hb (hml.trans hl.1.symm) hown (hts _ mw_52) (hts _ mw_53) (hts _ mw_54) (hts _ mw_55) (Nat.le_of_ble_eq_true rfl) (Nat.le_of_ble_eq_true rfl) (Nat.le_of_ble_eq_true rfl) (Nat.le_of_ble_eq_true rfl) dX1_init_101 ?_
  rw [show (if (5 : Int32) < (8 : Int32) then (5 : Int32) else (8 : Int32)) = (5 : Int32) by decide]
  refine lv_bipush (v := (100 : Int32)) hx hb dX1_init_104 (by decide) ?_
  refine n_callI (n := 2) (T' := fun q => q = (b, .inr (1, [.ref (z), .ref (z + 49), .ref (z + 50), .ref (z + 52), .ref (z + 54), .ref (z + 56), .int 0])) ∨ bT g (z) (z + 1) q ∨ q = (z + 49, .inl (g.2.2.2.2, 10, .inr (.inr (.inr (.inr (va_up (va_up (va_up (va_up (fun _ => none) 0 (some (z + 58))) 1 (some (z + 78))) 2 (some (z + 98))) 3 (some (z + 116)))))))) ∨ wT g (z + 50) (z + 51) 100 q ∨ wT g (z + 52) (z + 53) 100 q ∨ wT g (z + 54) (z + 55) 300 q ∨ wT g (z + 56) (z + 57) 300 q ∨ pT g (z + 58) (z + 59) 8 100 q ∨ pT g (z + 78) (z + 79) 8 100 q ∨ pT g (z + 98) (z + 99) 7 100 q ∨ pT g (z + 116) (z + 117) 6 100 q ∨ pT g (z + 132) (z + 133) 5 100 q) (As := [.int (5 : Int32), .int (100 : Int32)]) (rest := [.ref (z + 132), .int (4 : Int32), .ref (z + 49)]) Y hk2 hl.1 hz hw hS (Or.inr (Nat.le_add_right z _)) (fun q hq => Or.inr (Nat.le_trans (Nat.le_add_right z _) hq)) (kX2_init (b := z + 132) (z := z + 133) (t := 5) (r := 100) (Nat.lt_succ_self _) (by decide) (by decide)) (fun q h => (Or.inr (Or.inr (Or.inr (Or.inr (Or.inr (Or.inr (Or.inr (Or.inr (Or.inr (Or.inr (Or.inr h)))))))))))) mw_70 mw_23 mw_15 mw_24 rfl (by decide +kernel) rfl rfl ⟨Nat.le_of_ble_eq_true rfl, Nat.le_of_ble_eq_true rfl⟩ ⟨Nat.le_of_ble_eq_true rfl, Nat.le_of_ble_eq_true rfl⟩ rfl rfl (Nat.le_of_ble_eq_true rfl) (oX1_init_20 hbz) dX1_init_106 (fun H locs hw hz hS => ?_)
  replace hz : H.size = z + 146 := hz
  refine W.widen (k := 146) (n := 9422) (Nat.le_of_ble_eq_true rfl) (Nat.le_of_ble_eq_true rfl) ?_
  refine n_aast (T' := fun q => q = (b, .inr (1, [.ref (z), .ref (z + 49), .ref (z + 50), .ref (z + 52), .ref (z + 54), .ref (z + 56), .int 0])) ∨ bT g (z) (z + 1) q ∨ q = (z + 49, .inl (g.2.2.2.2, 10, .inr (.inr (.inr (.inr (va_up (va_up (va_up (va_up (va_up (fun _ => none) 0 (some (z + 58))) 1 (some (z + 78))) 2 (some (z + 98))) 3 (some (z + 116))) 4 (some (z + 132)))))))) ∨ wT g (z + 50) (z + 51) 100 q ∨ wT g (z + 52) (z + 53) 100 q ∨ wT g (z + 54) (z + 55) 300 q ∨ wT g (z + 56) (z + 57) 300 q ∨ pT g (z + 58) (z + 59) 8 100 q ∨ pT g (z + 78) (z + 79) 8 100 q ∨ pT g (z + 98) (z + 99) 7 100 q ∨ pT g (z + 116) (z + 117) 6 100 q ∨ pT g (z + 132) (z + 133) 5 100 q) (r := (RX2, TX2, 2)) Y hw hS (Or.inr (Nat.le_add_right z _)) (Or.inr (Or.inr (Or.inl rfl))) 3 rfl (Or.inr (Or.inr (Or.inr (Or.inr (Or.inr (Or.inr (Or.inr (Or.inr (Or.inr (Or.inr (Or.inr (Or.inl rfl)))))))))))) rfl (by unfold vp_in; decide) (oX1_init_21 hbz) dX1_init_109 (fun H locs hw hz2 hS => ?_)
  replace hz := hz2.trans hz
  clear hz2
  refine lv_iinc (v := (5 : Int32)) (lv' := [(1, .int (5 : Int32)), (0, .ref b)]) hx hb dX1_init_110 hl (k := 0) rfl (by decide) (by decide) rfl (fun ls hl => ?_)
  refine lv_goto (tgt := 80) hx hb dX1_init_113 (by decide) ?_
  refine lv_iload_n hx hb dX1_init_80 rfl (lv_at hl 0 rfl) ?_
  refine lv_bipush (v := (10 : Int32)) hx hb dX1_init_81 (by decide) ?_
  refine lv_icmp_ge (tgt := 116) hx hb dX1_init_83 (by decide) (fun hc => ?_) (fun hc => ?_)
  · exact absurd hc (by decide)
  clear hc
  refine lv_aload_n hx hb dX1_init_86 rfl (lv_at hl 1 rfl) ?_
  refine n_get (v := .ref (z + 49)) Y hw (Or.inl rfl) rfl inA_X1 1 (by decide) mw_46 rfl dX1_init_87 ?_
  refine lv_iload_n hx hb dX1_init_90 rfl (lv_at hl 0 rfl) ?_
  refine n_new (ci := 2) (fs := [.null, .int 0]) (T' := fun q => q = (b, .inr (1, [.ref (z), .ref (z + 49), .ref (z + 50), .ref (z + 52), .ref (z + 54), .ref (z + 56), .int 0])) ∨ bT g (z) (z + 1) q ∨ q = (z + 49, .inl (g.2.2.2.2, 10, .inr (.inr (.inr (.inr (va_up (va_up (va_up (va_up (va_up (fun _ => none) 0 (some (z + 58))) 1 (some (z + 78))) 2 (some (z + 98))) 3 (some (z + 116))) 4 (some (z + 132)))))))) ∨ wT g (z + 50) (z + 51) 100 q ∨ wT g (z + 52) (z + 53) 100 q ∨ wT g (z + 54) (z + 55) 300 q ∨ wT g (z + 56) (z + 57) 300 q ∨ pT g (z + 58) (z + 59) 8 100 q ∨ pT g (z + 78) (z + 79) 8 100 q ∨ pT g (z + 98) (z + 99) 7 100 q ∨ pT g (z + 116) (z + 117) 6 100 q ∨ pT g (z + 132) (z + 133) 5 100 q ∨ q = (z + 146, .inr (2, [.null, .int 0]))) Y hz hw hS rfl inA_X2 tyX2 tyX2_ok mw_45 mw_14 mw_15 (fun j hj => by rcases (show j = 0 ∨ j = 1 by omega) with rfl | rfl <;> rfl) (Nat.le_of_ble_eq_true rfl) (Nat.le_of_ble_eq_true rfl) ?_ dX1_init_91 (fun H hw hz hS => ?_)
  · rintro q (h | h | h | h | h | h | h | h | h | h | h | h | h)
    · exact Or.inr (Or.inl h)
    · exact Or.inr (Or.inr (Or.inl h))
    · exact Or.inr (Or.inr (Or.inr (Or.inl h)))
    · exact Or.inr (Or.inr (Or.inr (Or.inr (Or.inl h))))
    · exact Or.inr (Or.inr (Or.inr (Or.inr (Or.inr (Or.inl h)))))
    · exact Or.inr (Or.inr (Or.inr (Or.inr (Or.inr (Or.inr (Or.inl h))))))
    · exact Or.inr (Or.inr (Or.inr (Or.inr (Or.inr (Or.inr (Or.inr (Or.inl h)))))))
    · exact Or.inr (Or.inr (Or.inr (Or.inr (Or.inr (Or.inr (Or.inr (Or.inr (Or.inl h))))))))
    · exact Or.inr (Or.inr (Or.inr (Or.inr (Or.inr (Or.inr (Or.inr (Or.inr (Or.inr (Or.inl h)))))))))
    · exact Or.inr (Or.inr (Or.inr (Or.inr (Or.inr (Or.inr (Or.inr (Or.inr (Or.inr (Or.inr (Or.inl h))))))))))
    · exact Or.inr (Or.inr (Or.inr (Or.inr (Or.inr (Or.inr (Or.inr (Or.inr (Or.inr (Or.inr (Or.inr (Or.inl h)))))))))))
    · exact Or.inr (Or.inr (Or.inr (Or.inr (Or.inr (Or.inr (Or.inr (Or.inr (Or.inr (Or.inr (Or.inr (Or.inr h)))))))))))
    · exact Or.inl h
  replace hz : H.size = z + 147 := hz
  refine W.widen (k := 147) (n := 9424) (Nat.le_of_ble_eq_true rfl) (Nat.le_of_ble_eq_true rfl) ?_
  refine lv_dup hx hb dX1_init_94 rfl ?_
  refine lv_bipush (v := (8 : Int32)) hx hb dX1_init_95 (by decide) ?_
  refine lv_bipush (v := (9 : Int32)) hx hb dX1_init_97 (by decide) ?_
  refine lv_iload_n hx hb dX1_init_99 rfl (lv_at hl 0 rfl) ?_
  refine lv_isub hx hb dX1_init_100 ?_
  rw [show (9 : Int32) - (5 : Int32) = (4 : Int32) by decide]
  refine va_mmin hx hb (hml.trans hl.1.symm) hown (hts _ mw_52) (hts _ mw_53) (hts _ mw_54) (hts _ mw_55) (Nat.le_of_ble_eq_true rfl) (Nat.le_of_ble_eq_true rfl) (Nat.le_of_ble_eq_true rfl) (Nat.le_of_ble_eq_true rfl) dX1_init_101 ?_
  rw [show (if (4 : Int32) < (8 : Int32) then (4 : Int32) else (8 : Int32)) = (4 : Int32) by decide]
  refine lv_bipush (v := (100 : Int32)) hx hb dX1_init_104 (by decide) ?_
  refine n_callI (n := 2) (T' := fun q => q = (b, .inr (1, [.ref (z), .ref (z + 49), .ref (z + 50), .ref (z + 52), .ref (z + 54), .ref (z + 56), .int 0])) ∨ bT g (z) (z + 1) q ∨ q = (z + 49, .inl (g.2.2.2.2, 10, .inr (.inr (.inr (.inr (va_up (va_up (va_up (va_up (va_up (fun _ => none) 0 (some (z + 58))) 1 (some (z + 78))) 2 (some (z + 98))) 3 (some (z + 116))) 4 (some (z + 132)))))))) ∨ wT g (z + 50) (z + 51) 100 q ∨ wT g (z + 52) (z + 53) 100 q ∨ wT g (z + 54) (z + 55) 300 q ∨ wT g (z + 56) (z + 57) 300 q ∨ pT g (z + 58) (z + 59) 8 100 q ∨ pT g (z + 78) (z + 79) 8 100 q ∨ pT g (z + 98) (z + 99) 7 100 q ∨ pT g (z + 116) (z + 117) 6 100 q ∨ pT g (z + 132) (z + 133) 5 100 q ∨ pT g (z + 146) (z + 147) 4 100 q) (As := [.int (4 : Int32), .int (100 : Int32)]) (rest := [.ref (z + 146), .int (5 : Int32), .ref (z + 49)]) Y hk2 hl.1 hz hw hS (Or.inr (Nat.le_add_right z _)) (fun q hq => Or.inr (Nat.le_trans (Nat.le_add_right z _) hq)) (kX2_init (b := z + 146) (z := z + 147) (t := 4) (r := 100) (Nat.lt_succ_self _) (by decide) (by decide)) (fun q h => (Or.inr (Or.inr (Or.inr (Or.inr (Or.inr (Or.inr (Or.inr (Or.inr (Or.inr (Or.inr (Or.inr (Or.inr h))))))))))))) mw_70 mw_23 mw_15 mw_24 rfl (by decide +kernel) rfl rfl ⟨Nat.le_of_ble_eq_true rfl, Nat.le_of_ble_eq_true rfl⟩ ⟨Nat.le_of_ble_eq_true rfl, Nat.le_of_ble_eq_true rfl⟩ rfl rfl (Nat.le_of_ble_eq_true rfl) (oX1_init_22 hbz) dX1_init_106 (fun H locs hw hz hS => ?_)
  replace hz : H.size = z + 158 := hz
  refine W.widen (k := 158) (n := 9944) (Nat.le_of_ble_eq_true rfl) (Nat.le_of_ble_eq_true rfl) ?_
  refine n_aast (T' := fun q => q = (b, .inr (1, [.ref (z), .ref (z + 49), .ref (z + 50), .ref (z + 52), .ref (z + 54), .ref (z + 56), .int 0])) ∨ bT g (z) (z + 1) q ∨ q = (z + 49, .inl (g.2.2.2.2, 10, .inr (.inr (.inr (.inr (va_up (va_up (va_up (va_up (va_up (va_up (fun _ => none) 0 (some (z + 58))) 1 (some (z + 78))) 2 (some (z + 98))) 3 (some (z + 116))) 4 (some (z + 132))) 5 (some (z + 146)))))))) ∨ wT g (z + 50) (z + 51) 100 q ∨ wT g (z + 52) (z + 53) 100 q ∨ wT g (z + 54) (z + 55) 300 q ∨ wT g (z + 56) (z + 57) 300 q ∨ pT g (z + 58) (z + 59) 8 100 q ∨ pT g (z + 78) (z + 79) 8 100 q ∨ pT g (z + 98) (z + 99) 7 100 q ∨ pT g (z + 116) (z + 117) 6 100 q ∨ pT g (z + 132) (z + 133) 5 100 q ∨ pT g (z + 146) (z + 147) 4 100 q) (r := (RX2, TX2, 2)) Y hw hS (Or.inr (Nat.le_add_right z _)) (Or.inr (Or.inr (Or.inl rfl))) 3 rfl (Or.inr (Or.inr (Or.inr (Or.inr (Or.inr (Or.inr (Or.inr (Or.inr (Or.inr (Or.inr (Or.inr (Or.inr (Or.inl rfl))))))))))))) rfl (by unfold vp_in; decide) (oX1_init_23 hbz) dX1_init_109 (fun H locs hw hz2 hS => ?_)
  replace hz := hz2.trans hz
  clear hz2
  refine lv_iinc (v := (6 : Int32)) (lv' := [(1, .int (6 : Int32)), (0, .ref b)]) hx hb dX1_init_110 hl (k := 0) rfl (by decide) (by decide) rfl (fun ls hl => ?_)
  refine lv_goto (tgt := 80) hx hb dX1_init_113 (by decide) ?_
  refine lv_iload_n hx hb dX1_init_80 rfl (lv_at hl 0 rfl) ?_
  refine lv_bipush (v := (10 : Int32)) hx hb dX1_init_81 (by decide) ?_
  refine lv_icmp_ge (tgt := 116) hx hb dX1_init_83 (by decide) (fun hc => ?_) (fun hc => ?_)
  · exact absurd hc (by decide)
  clear hc
  refine lv_aload_n hx hb dX1_init_86 rfl (lv_at hl 1 rfl) ?_
  refine n_get (v := .ref (z + 49)) Y hw (Or.inl rfl) rfl inA_X1 1 (by decide) mw_46 rfl dX1_init_87 ?_
  refine lv_iload_n hx hb dX1_init_90 rfl (lv_at hl 0 rfl) ?_
  refine n_new (ci := 2) (fs := [.null, .int 0]) (T' := fun q => q = (b, .inr (1, [.ref (z), .ref (z + 49), .ref (z + 50), .ref (z + 52), .ref (z + 54), .ref (z + 56), .int 0])) ∨ bT g (z) (z + 1) q ∨ q = (z + 49, .inl (g.2.2.2.2, 10, .inr (.inr (.inr (.inr (va_up (va_up (va_up (va_up (va_up (va_up (fun _ => none) 0 (some (z + 58))) 1 (some (z + 78))) 2 (some (z + 98))) 3 (some (z + 116))) 4 (some (z + 132))) 5 (some (z + 146)))))))) ∨ wT g (z + 50) (z + 51) 100 q ∨ wT g (z + 52) (z + 53) 100 q ∨ wT g (z + 54) (z + 55) 300 q ∨ wT g (z + 56) (z + 57) 300 q ∨ pT g (z + 58) (z + 59) 8 100 q ∨ pT g (z + 78) (z + 79) 8 100 q ∨ pT g (z + 98) (z + 99) 7 100 q ∨ pT g (z + 116) (z + 117) 6 100 q ∨ pT g (z + 132) (z + 133) 5 100 q ∨ pT g (z + 146) (z + 147) 4 100 q ∨ q = (z + 158, .inr (2, [.null, .int 0]))) Y hz hw hS rfl inA_X2 tyX2 tyX2_ok mw_45 mw_14 mw_15 (fun j hj => by rcases (show j = 0 ∨ j = 1 by omega) with rfl | rfl <;> rfl) (Nat.le_of_ble_eq_true rfl) (Nat.le_of_ble_eq_true rfl) ?_ dX1_init_91 (fun H hw hz hS => ?_)
  · rintro q (h | h | h | h | h | h | h | h | h | h | h | h | h | h)
    · exact Or.inr (Or.inl h)
    · exact Or.inr (Or.inr (Or.inl h))
    · exact Or.inr (Or.inr (Or.inr (Or.inl h)))
    · exact Or.inr (Or.inr (Or.inr (Or.inr (Or.inl h))))
    · exact Or.inr (Or.inr (Or.inr (Or.inr (Or.inr (Or.inl h)))))
    · exact Or.inr (Or.inr (Or.inr (Or.inr (Or.inr (Or.inr (Or.inl h))))))
    · exact Or.inr (Or.inr (Or.inr (Or.inr (Or.inr (Or.inr (Or.inr (Or.inl h)))))))
    · exact Or.inr (Or.inr (Or.inr (Or.inr (Or.inr (Or.inr (Or.inr (Or.inr (Or.inl h))))))))
    · exact Or.inr (Or.inr (Or.inr (Or.inr (Or.inr (Or.inr (Or.inr (Or.inr (Or.inr (Or.inl h)))))))))
    · exact Or.inr (Or.inr (Or.inr (Or.inr (Or.inr (Or.inr (Or.inr (Or.inr (Or.inr (Or.inr (Or.inl h))))))))))
    · exact Or.inr (Or.inr (Or.inr (Or.inr (Or.inr (Or.inr (Or.inr (Or.inr (Or.inr (Or.inr (Or.inr (Or.inl h)))))))))))
    · exact Or.inr (Or.inr (Or.inr (Or.inr (Or.inr (Or.inr (Or.inr (Or.inr (Or.inr (Or.inr (Or.inr (Or.inr (Or.inl h))))))))))))
    · exact Or.inr (Or.inr (Or.inr (Or.inr (Or.inr (Or.inr (Or.inr (Or.inr (Or.inr (Or.inr (Or.inr (Or.inr (Or.inr h))))))))))))
    · exact Or.inl h
  replace hz : H.size = z + 159 := hz
  refine W.widen (k := 159) (n := 9946) (Nat.le_of_ble_eq_true rfl) (Nat.le_of_ble_eq_true rfl) ?_
  refine lv_dup hx hb dX1_init_94 rfl ?_
  refine lv_bipush (v := (8 : Int32)) hx hb dX1_init_95 (by decide) ?_
  refine lv_bipush (v := (9 : Int32)) hx hb dX1_init_97 (by decide) ?_
  refine lv_iload_n hx hb dX1_init_99 rfl (lv_at hl 0 rfl) ?_
  refine lv_isub hx hb dX1_init_100 ?_
  rw [show (9 : Int32) - (6 : Int32) = (3 : Int32) by decide]
  refine va_mmin hx hb (hml.trans hl.1.symm) hown (hts _ mw_52) (hts _ mw_53) (hts _ mw_54) (hts _ mw_55) (Nat.le_of_ble_eq_true rfl) (Nat.le_of_ble_eq_true rfl) (Nat.le_of_ble_eq_true rfl) (Nat.le_of_ble_eq_true rfl) dX1_init_101 ?_
  rw [show (if (3 : Int32) < (8 : Int32) then (3 : Int32) else (8 : Int32)) = (3 : Int32) by decide]
  refine lv_bipush (v := (100 : Int32)) hx hb dX1_init_104 (by decide) ?_
  refine n_callI (n := 2) (T' := fun q => q = (b, .inr (1, [.ref (z), .ref (z + 49), .ref (z + 50), .ref (z + 52), .ref (z + 54), .ref (z + 56), .int 0])) ∨ bT g (z) (z + 1) q ∨ q = (z + 49, .inl (g.2.2.2.2, 10, .inr (.inr (.inr (.inr (va_up (va_up (va_up (va_up (va_up (va_up (fun _ => none) 0 (some (z + 58))) 1 (some (z + 78))) 2 (some (z + 98))) 3 (some (z + 116))) 4 (some (z + 132))) 5 (some (z + 146)))))))) ∨ wT g (z + 50) (z + 51) 100 q ∨ wT g (z + 52) (z + 53) 100 q ∨ wT g (z + 54) (z + 55) 300 q ∨ wT g (z + 56) (z + 57) 300 q ∨ pT g (z + 58) (z + 59) 8 100 q ∨ pT g (z + 78) (z + 79) 8 100 q ∨ pT g (z + 98) (z + 99) 7 100 q ∨ pT g (z + 116) (z + 117) 6 100 q ∨ pT g (z + 132) (z + 133) 5 100 q ∨ pT g (z + 146) (z + 147) 4 100 q ∨ pT g (z + 158) (z + 159) 3 100 q) (As := [.int (3 : Int32), .int (100 : Int32)]) (rest := [.ref (z + 158), .int (6 : Int32), .ref (z + 49)]) Y hk2 hl.1 hz hw hS (Or.inr (Nat.le_add_right z _)) (fun q hq => Or.inr (Nat.le_trans (Nat.le_add_right z _) hq)) (kX2_init (b := z + 158) (z := z + 159) (t := 3) (r := 100) (Nat.lt_succ_self _) (by decide) (by decide)) (fun q h => (Or.inr (Or.inr (Or.inr (Or.inr (Or.inr (Or.inr (Or.inr (Or.inr (Or.inr (Or.inr (Or.inr (Or.inr (Or.inr h)))))))))))))) mw_70 mw_23 mw_15 mw_24 rfl (by decide +kernel) rfl rfl ⟨Nat.le_of_ble_eq_true rfl, Nat.le_of_ble_eq_true rfl⟩ ⟨Nat.le_of_ble_eq_true rfl, Nat.le_of_ble_eq_true rfl⟩ rfl rfl (Nat.le_of_ble_eq_true rfl) (oX1_init_24 hbz) dX1_init_106 (fun H locs hw hz hS => ?_)
  replace hz : H.size = z + 168 := hz
  refine W.widen (k := 168) (n := 10362) (Nat.le_of_ble_eq_true rfl) (Nat.le_of_ble_eq_true rfl) ?_
  refine n_aast (T' := fun q => q = (b, .inr (1, [.ref (z), .ref (z + 49), .ref (z + 50), .ref (z + 52), .ref (z + 54), .ref (z + 56), .int 0])) ∨ bT g (z) (z + 1) q ∨ q = (z + 49, .inl (g.2.2.2.2, 10, .inr (.inr (.inr (.inr (va_up (va_up (va_up (va_up (va_up (va_up (va_up (fun _ => none) 0 (some (z + 58))) 1 (some (z + 78))) 2 (some (z + 98))) 3 (some (z + 116))) 4 (some (z + 132))) 5 (some (z + 146))) 6 (some (z + 158)))))))) ∨ wT g (z + 50) (z + 51) 100 q ∨ wT g (z + 52) (z + 53) 100 q ∨ wT g (z + 54) (z + 55) 300 q ∨ wT g (z + 56) (z + 57) 300 q ∨ pT g (z + 58) (z + 59) 8 100 q ∨ pT g (z + 78) (z + 79) 8 100 q ∨ pT g (z + 98) (z + 99) 7 100 q ∨ pT g (z + 116) (z + 117) 6 100 q ∨ pT g (z + 132) (z + 133) 5 100 q ∨ pT g (z + 146) (z + 147) 4 100 q ∨ pT g (z + 158) (z + 159) 3 100 q) (r := (RX2, TX2, 2)) Y hw hS (Or.inr (Nat.le_add_right z _)) (Or.inr (Or.inr (Or.inl rfl))) 3 rfl (Or.inr (Or.inr (Or.inr (Or.inr (Or.inr (Or.inr (Or.inr (Or.inr (Or.inr (Or.inr (Or.inr (Or.inr (Or.inr (Or.inl rfl)))))))))))))) rfl (by unfold vp_in; decide) (oX1_init_25 hbz) dX1_init_109 (fun H locs hw hz2 hS => ?_)
  replace hz := hz2.trans hz
  clear hz2
  refine lv_iinc (v := (7 : Int32)) (lv' := [(1, .int (7 : Int32)), (0, .ref b)]) hx hb dX1_init_110 hl (k := 0) rfl (by decide) (by decide) rfl (fun ls hl => ?_)
  refine lv_goto (tgt := 80) hx hb dX1_init_113 (by decide) ?_
  refine lv_iload_n hx hb dX1_init_80 rfl (lv_at hl 0 rfl) ?_
  refine lv_bipush (v := (10 : Int32)) hx hb dX1_init_81 (by decide) ?_
  refine lv_icmp_ge (tgt := 116) hx hb dX1_init_83 (by decide) (fun hc => ?_) (fun hc => ?_)
  · exact absurd hc (by decide)
  clear hc
  refine lv_aload_n hx hb dX1_init_86 rfl (lv_at hl 1 rfl) ?_
  refine n_get (v := .ref (z + 49)) Y hw (Or.inl rfl) rfl inA_X1 1 (by decide) mw_46 rfl dX1_init_87 ?_
  refine lv_iload_n hx hb dX1_init_90 rfl (lv_at hl 0 rfl) ?_
  refine n_new (ci := 2) (fs := [.null, .int 0]) (T' := fun q => q = (b, .inr (1, [.ref (z), .ref (z + 49), .ref (z + 50), .ref (z + 52), .ref (z + 54), .ref (z + 56), .int 0])) ∨ bT g (z) (z + 1) q ∨ q = (z + 49, .inl (g.2.2.2.2, 10, .inr (.inr (.inr (.inr (va_up (va_up (va_up (va_up (va_up (va_up (va_up (fun _ => none) 0 (some (z + 58))) 1 (some (z + 78))) 2 (some (z + 98))) 3 (some (z + 116))) 4 (some (z + 132))) 5 (some (z + 146))) 6 (some (z + 158)))))))) ∨ wT g (z + 50) (z + 51) 100 q ∨ wT g (z + 52) (z + 53) 100 q ∨ wT g (z + 54) (z + 55) 300 q ∨ wT g (z + 56) (z + 57) 300 q ∨ pT g (z + 58) (z + 59) 8 100 q ∨ pT g (z + 78) (z + 79) 8 100 q ∨ pT g (z + 98) (z + 99) 7 100 q ∨ pT g (z + 116) (z + 117) 6 100 q ∨ pT g (z + 132) (z + 133) 5 100 q ∨ pT g (z + 146) (z + 147) 4 100 q ∨ pT g (z + 158) (z + 159) 3 100 q ∨ q = (z + 168, .inr (2, [.null, .int 0]))) Y hz hw hS rfl inA_X2 tyX2 tyX2_ok mw_45 mw_14 mw_15 (fun j hj => by rcases (show j = 0 ∨ j = 1 by omega) with rfl | rfl <;> rfl) (Nat.le_of_ble_eq_true rfl) (Nat.le_of_ble_eq_true rfl) ?_ dX1_init_91 (fun H hw hz hS => ?_)
  · rintro q (h | h | h | h | h | h | h | h | h | h | h | h | h | h | h)
    · exact Or.inr (Or.inl h)
    · exact Or.inr (Or.inr (Or.inl h))
    · exact Or.inr (Or.inr (Or.inr (Or.inl h)))
    · exact Or.inr (Or.inr (Or.inr (Or.inr (Or.inl h))))
    · exact Or.inr (Or.inr (Or.inr (Or.inr (Or.inr (Or.inl h)))))
    · exact Or.inr (Or.inr (Or.inr (Or.inr (Or.inr (Or.inr (Or.inl h))))))
    · exact Or.inr (Or.inr (Or.inr (Or.inr (Or.inr (Or.inr (Or.inr (Or.inl h)))))))
    · exact Or.inr (Or.inr (Or.inr (Or.inr (Or.inr (Or.inr (Or.inr (Or.inr (Or.inl h))))))))
    · exact Or.inr (Or.inr (Or.inr (Or.inr (Or.inr (Or.inr (Or.inr (Or.inr (Or.inr (Or.inl h)))))))))
    · exact Or.inr (Or.inr (Or.inr (Or.inr (Or.inr (Or.inr (Or.inr (Or.inr (Or.inr (Or.inr (Or.inl h))))))))))
    · exact Or.inr (Or.inr (Or.inr (Or.inr (Or.inr (Or.inr (Or.inr (Or.inr (Or.inr (Or.inr (Or.inr (Or.inl h)))))))))))
    · exact Or.inr (Or.inr (Or.inr (Or.inr (Or.inr (Or.inr (Or.inr (Or.inr (Or.inr (Or.inr (Or.inr (Or.inr (Or.inl h))))))))))))
    · exact Or.inr (Or.inr (Or.inr (Or.inr (Or.inr (Or.inr (Or.inr (Or.inr (Or.inr (Or.inr (Or.inr (Or.inr (Or.inr (Or.inl h)))))))))))))
    · exact Or.inr (Or.inr (Or.inr (Or.inr (Or.inr (Or.inr (Or.inr (Or.inr (Or.inr (Or.inr (Or.inr (Or.inr (Or.inr (Or.inr h)))))))))))))
    · exact Or.inl h
  replace hz : H.size = z + 169 := hz
  refine W.widen (k := 169) (n := 10364) (Nat.le_of_ble_eq_true rfl) (Nat.le_of_ble_eq_true rfl) ?_
  refine lv_dup hx hb dX1_init_94 rfl ?_
  refine lv_bipush (v := (8 : Int32)) hx hb dX1_init_95 (by decide) ?_
  refine lv_bipush (v := (9 : Int32)) hx hb dX1_init_97 (by decide) ?_
  refine lv_iload_n hx hb dX1_init_99 rfl (lv_at hl 0 rfl) ?_
  refine lv_isub hx hb dX1_init_100 ?_
  rw [show (9 : Int32) - (7 : Int32) = (2 : Int32) by decide]
  refine va_mmin hx hb (hml.trans hl.1.symm) hown (hts _ mw_52) (hts _ mw_53) (hts _ mw_54) (hts _ mw_55) (Nat.le_of_ble_eq_true rfl) (Nat.le_of_ble_eq_true rfl) (Nat.le_of_ble_eq_true rfl) (Nat.le_of_ble_eq_true rfl) dX1_init_101 ?_
  rw [show (if (2 : Int32) < (8 : Int32) then (2 : Int32) else (8 : Int32)) = (2 : Int32) by decide]
  refine lv_bipush (v := (100 : Int32)) hx hb dX1_init_104 (by decide) ?_
  refine n_callI (n := 2) (T' := fun q => q = (b, .inr (1, [.ref (z), .ref (z + 49), .ref (z + 50), .ref (z + 52), .ref (z + 54), .ref (z + 56), .int 0])) ∨ bT g (z) (z + 1) q ∨ q = (z + 49, .inl (g.2.2.2.2, 10, .inr (.inr (.inr (.inr (va_up (va_up (va_up (va_up (va_up (va_up (va_up (fun _ => none) 0 (some (z + 58))) 1 (some (z + 78))) 2 (some (z + 98))) 3 (some (z + 116))) 4 (some (z + 132))) 5 (some (z + 146))) 6 (some (z + 158)))))))) ∨ wT g (z + 50) (z + 51) 100 q ∨ wT g (z + 52) (z + 53) 100 q ∨ wT g (z + 54) (z + 55) 300 q ∨ wT g (z + 56) (z + 57) 300 q ∨ pT g (z + 58) (z + 59) 8 100 q ∨ pT g (z + 78) (z + 79) 8 100 q ∨ pT g (z + 98) (z + 99) 7 100 q ∨ pT g (z + 116) (z + 117) 6 100 q ∨ pT g (z + 132) (z + 133) 5 100 q ∨ pT g (z + 146) (z + 147) 4 100 q ∨ pT g (z + 158) (z + 159) 3 100 q ∨ pT g (z + 168) (z + 169) 2 100 q) (As := [.int (2 : Int32), .int (100 : Int32)]) (rest := [.ref (z + 168), .int (7 : Int32), .ref (z + 49)]) Y hk2 hl.1 hz hw hS (Or.inr (Nat.le_add_right z _)) (fun q hq => Or.inr (Nat.le_trans (Nat.le_add_right z _) hq)) (kX2_init (b := z + 168) (z := z + 169) (t := 2) (r := 100) (Nat.lt_succ_self _) (by decide) (by decide)) (fun q h => (Or.inr (Or.inr (Or.inr (Or.inr (Or.inr (Or.inr (Or.inr (Or.inr (Or.inr (Or.inr (Or.inr (Or.inr (Or.inr (Or.inr h))))))))))))))) mw_70 mw_23 mw_15 mw_24 rfl (by decide +kernel) rfl rfl ⟨Nat.le_of_ble_eq_true rfl, Nat.le_of_ble_eq_true rfl⟩ ⟨Nat.le_of_ble_eq_true rfl, Nat.le_of_ble_eq_true rfl⟩ rfl rfl (Nat.le_of_ble_eq_true rfl) (oX1_init_26 hbz) dX1_init_106 (fun H locs hw hz hS => ?_)
  replace hz : H.size = z + 176 := hz
  refine W.widen (k := 176) (n := 10676) (Nat.le_of_ble_eq_true rfl) (Nat.le_of_ble_eq_true rfl) ?_
  refine n_aast (T' := fun q => q = (b, .inr (1, [.ref (z), .ref (z + 49), .ref (z + 50), .ref (z + 52), .ref (z + 54), .ref (z + 56), .int 0])) ∨ bT g (z) (z + 1) q ∨ q = (z + 49, .inl (g.2.2.2.2, 10, .inr (.inr (.inr (.inr (va_up (va_up (va_up (va_up (va_up (va_up (va_up (va_up (fun _ => none) 0 (some (z + 58))) 1 (some (z + 78))) 2 (some (z + 98))) 3 (some (z + 116))) 4 (some (z + 132))) 5 (some (z + 146))) 6 (some (z + 158))) 7 (some (z + 168)))))))) ∨ wT g (z + 50) (z + 51) 100 q ∨ wT g (z + 52) (z + 53) 100 q ∨ wT g (z + 54) (z + 55) 300 q ∨ wT g (z + 56) (z + 57) 300 q ∨ pT g (z + 58) (z + 59) 8 100 q ∨ pT g (z + 78) (z + 79) 8 100 q ∨ pT g (z + 98) (z + 99) 7 100 q ∨ pT g (z + 116) (z + 117) 6 100 q ∨ pT g (z + 132) (z + 133) 5 100 q ∨ pT g (z + 146) (z + 147) 4 100 q ∨ pT g (z + 158) (z + 159) 3 100 q ∨ pT g (z + 168) (z + 169) 2 100 q) (r := (RX2, TX2, 2)) Y hw hS (Or.inr (Nat.le_add_right z _)) (Or.inr (Or.inr (Or.inl rfl))) 3 rfl (Or.inr (Or.inr (Or.inr (Or.inr (Or.inr (Or.inr (Or.inr (Or.inr (Or.inr (Or.inr (Or.inr (Or.inr (Or.inr (Or.inr (Or.inl rfl))))))))))))))) rfl (by unfold vp_in; decide) (oX1_init_27 hbz) dX1_init_109 (fun H locs hw hz2 hS => ?_)
  replace hz := hz2.trans hz
  clear hz2
  refine lv_iinc (v := (8 : Int32)) (lv' := [(1, .int (8 : Int32)), (0, .ref b)]) hx hb dX1_init_110 hl (k := 0) rfl (by decide) (by decide) rfl (fun ls hl => ?_)
  refine lv_goto (tgt := 80) hx hb dX1_init_113 (by decide) ?_
  refine lv_iload_n hx hb dX1_init_80 rfl (lv_at hl 0 rfl) ?_
  refine lv_bipush (v := (10 : Int32)) hx hb dX1_init_81 (by decide) ?_
  refine lv_icmp_ge (tgt := 116) hx hb dX1_init_83 (by decide) (fun hc => ?_) (fun hc => ?_)
  · exact absurd hc (by decide)
  clear hc
  refine lv_aload_n hx hb dX1_init_86 rfl (lv_at hl 1 rfl) ?_
  refine n_get (v := .ref (z + 49)) Y hw (Or.inl rfl) rfl inA_X1 1 (by decide) mw_46 rfl dX1_init_87 ?_
  refine lv_iload_n hx hb dX1_init_90 rfl (lv_at hl 0 rfl) ?_
  refine n_new (ci := 2) (fs := [.null, .int 0]) (T' := fun q => q = (b, .inr (1, [.ref (z), .ref (z + 49), .ref (z + 50), .ref (z + 52), .ref (z + 54), .ref (z + 56), .int 0])) ∨ bT g (z) (z + 1) q ∨ q = (z + 49, .inl (g.2.2.2.2, 10, .inr (.inr (.inr (.inr (va_up (va_up (va_up (va_up (va_up (va_up (va_up (va_up (fun _ => none) 0 (some (z + 58))) 1 (some (z + 78))) 2 (some (z + 98))) 3 (some (z + 116))) 4 (some (z + 132))) 5 (some (z + 146))) 6 (some (z + 158))) 7 (some (z + 168)))))))) ∨ wT g (z + 50) (z + 51) 100 q ∨ wT g (z + 52) (z + 53) 100 q ∨ wT g (z + 54) (z + 55) 300 q ∨ wT g (z + 56) (z + 57) 300 q ∨ pT g (z + 58) (z + 59) 8 100 q ∨ pT g (z + 78) (z + 79) 8 100 q ∨ pT g (z + 98) (z + 99) 7 100 q ∨ pT g (z + 116) (z + 117) 6 100 q ∨ pT g (z + 132) (z + 133) 5 100 q ∨ pT g (z + 146) (z + 147) 4 100 q ∨ pT g (z + 158) (z + 159) 3 100 q ∨ pT g (z + 168) (z + 169) 2 100 q ∨ q = (z + 176, .inr (2, [.null, .int 0]))) Y hz hw hS rfl inA_X2 tyX2 tyX2_ok mw_45 mw_14 mw_15 (fun j hj => by rcases (show j = 0 ∨ j = 1 by omega) with rfl | rfl <;> rfl) (Nat.le_of_ble_eq_true rfl) (Nat.le_of_ble_eq_true rfl) ?_ dX1_init_91 (fun H hw hz hS => ?_)
  · rintro q (h | h | h | h | h | h | h | h | h | h | h | h | h | h | h | h)
    · exact Or.inr (Or.inl h)
    · exact Or.inr (Or.inr (Or.inl h))
    · exact Or.inr (Or.inr (Or.inr (Or.inl h)))
    · exact Or.inr (Or.inr (Or.inr (Or.inr (Or.inl h))))
    · exact Or.inr (Or.inr (Or.inr (Or.inr (Or.inr (Or.inl h)))))
    · exact Or.inr (Or.inr (Or.inr (Or.inr (Or.inr (Or.inr (Or.inl h))))))
    · exact Or.inr (Or.inr (Or.inr (Or.inr (Or.inr (Or.inr (Or.inr (Or.inl h)))))))
    · exact Or.inr (Or.inr (Or.inr (Or.inr (Or.inr (Or.inr (Or.inr (Or.inr (Or.inl h))))))))
    · exact Or.inr (Or.inr (Or.inr (Or.inr (Or.inr (Or.inr (Or.inr (Or.inr (Or.inr (Or.inl h)))))))))
    · exact Or.inr (Or.inr (Or.inr (Or.inr (Or.inr (Or.inr (Or.inr (Or.inr (Or.inr (Or.inr (Or.inl h))))))))))
    · exact Or.inr (Or.inr (Or.inr (Or.inr (Or.inr (Or.inr (Or.inr (Or.inr (Or.inr (Or.inr (Or.inr (Or.inl h)))))))))))
    · exact Or.inr (Or.inr (Or.inr (Or.inr (Or.inr (Or.inr (Or.inr (Or.inr (Or.inr (Or.inr (Or.inr (Or.inr (Or.inl h))))))))))))
    · exact Or.inr (Or.inr (Or.inr (Or.inr (Or.inr (Or.inr (Or.inr (Or.inr (Or.inr (Or.inr (Or.inr (Or.inr (Or.inr (Or.inl h)))))))))))))
    · exact Or.inr (Or.inr (Or.inr (Or.inr (Or.inr (Or.inr (Or.inr (Or.inr (Or.inr (Or.inr (Or.inr (Or.inr (Or.inr (Or.inr (Or.inl h))))))))))))))
    · exact Or.inr (Or.inr (Or.inr (Or.inr (Or.inr (Or.inr (Or.inr (Or.inr (Or.inr (Or.inr (Or.inr (Or.inr (Or.inr (Or.inr (Or.inr h))))))))))))))
    · exact Or.inl h
  replace hz : H.size = z + 177 := hz
  refine W.widen (k := 177) (n := 10678) (Nat.le_of_ble_eq_true rfl) (Nat.le_of_ble_eq_true rfl) ?_
  refine lv_dup hx hb dX1_init_94 rfl ?_
  refine lv_bipush (v := (8 : Int32)) hx hb dX1_init_95 (by decide) ?_
  refine lv_bipush (v := (9 : Int32)) hx hb dX1_init_97 (by decide) ?_
  refine lv_iload_n hx hb dX1_init_99 rfl (lv_at hl 0 rfl) ?_
  refine lv_isub hx hb dX1_init_100 ?_
  rw [show (9 : Int32) - (8 : Int32) = (1 : Int32) by decide]
  refine va_mmin hx hb (hml.trans hl.1.symm) hown (hts _ mw_52) (hts _ mw_53) (hts _ mw_54) (hts _ mw_55) (Nat.le_of_ble_eq_true rfl) (Nat.le_of_ble_eq_true rfl) (Nat.le_of_ble_eq_true rfl) (Nat.le_of_ble_eq_true rfl) dX1_init_101 ?_
  rw [show (if (1 : Int32) < (8 : Int32) then (1 : Int32) else (8 : Int32)) = (1 : Int32) by decide]
  refine lv_bipush (v := (100 : Int32)) hx hb dX1_init_104 (by decide) ?_
  refine n_callI (n := 2) (T' := fun q => q = (b, .inr (1, [.ref (z), .ref (z + 49), .ref (z + 50), .ref (z + 52), .ref (z + 54), .ref (z + 56), .int 0])) ∨ bT g (z) (z + 1) q ∨ q = (z + 49, .inl (g.2.2.2.2, 10, .inr (.inr (.inr (.inr (va_up (va_up (va_up (va_up (va_up (va_up (va_up (va_up (fun _ => none) 0 (some (z + 58))) 1 (some (z + 78))) 2 (some (z + 98))) 3 (some (z + 116))) 4 (some (z + 132))) 5 (some (z + 146))) 6 (some (z + 158))) 7 (some (z + 168)))))))) ∨ wT g (z + 50) (z + 51) 100 q ∨ wT g (z + 52) (z + 53) 100 q ∨ wT g (z + 54) (z + 55) 300 q ∨ wT g (z + 56) (z + 57) 300 q ∨ pT g (z + 58) (z + 59) 8 100 q ∨ pT g (z + 78) (z + 79) 8 100 q ∨ pT g (z + 98) (z + 99) 7 100 q ∨ pT g (z + 116) (z + 117) 6 100 q ∨ pT g (z + 132) (z + 133) 5 100 q ∨ pT g (z + 146) (z + 147) 4 100 q ∨ pT g (z + 158) (z + 159) 3 100 q ∨ pT g (z + 168) (z + 169) 2 100 q ∨ pT g (z + 176) (z + 177) 1 100 q) (As := [.int (1 : Int32), .int (100 : Int32)]) (rest := [.ref (z + 176), .int (8 : Int32), .ref (z + 49)]) Y hk2 hl.1 hz hw hS (Or.inr (Nat.le_add_right z _)) (fun q hq => Or.inr (Nat.le_trans (Nat.le_add_right z _) hq)) (kX2_init (b := z + 176) (z := z + 177) (t := 1) (r := 100) (Nat.lt_succ_self _) (by decide) (by decide)) (fun q h => (Or.inr (Or.inr (Or.inr (Or.inr (Or.inr (Or.inr (Or.inr (Or.inr (Or.inr (Or.inr (Or.inr (Or.inr (Or.inr (Or.inr (Or.inr h)))))))))))))))) mw_70 mw_23 mw_15 mw_24 rfl (by decide +kernel) rfl rfl ⟨Nat.le_of_ble_eq_true rfl, Nat.le_of_ble_eq_true rfl⟩ ⟨Nat.le_of_ble_eq_true rfl, Nat.le_of_ble_eq_true rfl⟩ rfl rfl (Nat.le_of_ble_eq_true rfl) (oX1_init_28 hbz) dX1_init_106 (fun H locs hw hz hS => ?_)
  replace hz : H.size = z + 182 := hz
  refine W.widen (k := 182) (n := 10886) (Nat.le_of_ble_eq_true rfl) (Nat.le_of_ble_eq_true rfl) ?_
  refine n_aast (T' := fun q => q = (b, .inr (1, [.ref (z), .ref (z + 49), .ref (z + 50), .ref (z + 52), .ref (z + 54), .ref (z + 56), .int 0])) ∨ bT g (z) (z + 1) q ∨ q = (z + 49, .inl (g.2.2.2.2, 10, .inr (.inr (.inr (.inr (va_up (va_up (va_up (va_up (va_up (va_up (va_up (va_up (va_up (fun _ => none) 0 (some (z + 58))) 1 (some (z + 78))) 2 (some (z + 98))) 3 (some (z + 116))) 4 (some (z + 132))) 5 (some (z + 146))) 6 (some (z + 158))) 7 (some (z + 168))) 8 (some (z + 176)))))))) ∨ wT g (z + 50) (z + 51) 100 q ∨ wT g (z + 52) (z + 53) 100 q ∨ wT g (z + 54) (z + 55) 300 q ∨ wT g (z + 56) (z + 57) 300 q ∨ pT g (z + 58) (z + 59) 8 100 q ∨ pT g (z + 78) (z + 79) 8 100 q ∨ pT g (z + 98) (z + 99) 7 100 q ∨ pT g (z + 116) (z + 117) 6 100 q ∨ pT g (z + 132) (z + 133) 5 100 q ∨ pT g (z + 146) (z + 147) 4 100 q ∨ pT g (z + 158) (z + 159) 3 100 q ∨ pT g (z + 168) (z + 169) 2 100 q ∨ pT g (z + 176) (z + 177) 1 100 q) (r := (RX2, TX2, 2)) Y hw hS (Or.inr (Nat.le_add_right z _)) (Or.inr (Or.inr (Or.inl rfl))) 3 rfl (Or.inr (Or.inr (Or.inr (Or.inr (Or.inr (Or.inr (Or.inr (Or.inr (Or.inr (Or.inr (Or.inr (Or.inr (Or.inr (Or.inr (Or.inr (Or.inl rfl)))))))))))))))) rfl (by unfold vp_in; decide) (oX1_init_29 hbz) dX1_init_109 (fun H locs hw hz2 hS => ?_)
  replace hz := hz2.trans hz
  clear hz2
  refine lv_iinc (v := (9 : Int32)) (lv' := [(1, .int (9 : Int32)), (0, .ref b)]) hx hb dX1_init_110 hl (k := 0) rfl (by decide) (by decide) rfl (fun ls hl => ?_)
  refine lv_goto (tgt := 80) hx hb dX1_init_113 (by decide) ?_
  refine lv_iload_n hx hb dX1_init_80 rfl (lv_at hl 0 rfl) ?_
  refine lv_bipush (v := (10 : Int32)) hx hb dX1_init_81 (by decide) ?_
  refine lv_icmp_ge (tgt := 116) hx hb dX1_init_83 (by decide) (fun hc => ?_) (fun hc => ?_)
  · exact absurd hc (by decide)
  clear hc
  refine lv_aload_n hx hb dX1_init_86 rfl (lv_at hl 1 rfl) ?_
  refine n_get (v := .ref (z + 49)) Y hw (Or.inl rfl) rfl inA_X1 1 (by decide) mw_46 rfl dX1_init_87 ?_
  refine lv_iload_n hx hb dX1_init_90 rfl (lv_at hl 0 rfl) ?_
  refine n_new (ci := 2) (fs := [.null, .int 0]) (T' := fun q => q = (b, .inr (1, [.ref (z), .ref (z + 49), .ref (z + 50), .ref (z + 52), .ref (z + 54), .ref (z + 56), .int 0])) ∨ bT g (z) (z + 1) q ∨ q = (z + 49, .inl (g.2.2.2.2, 10, .inr (.inr (.inr (.inr (va_up (va_up (va_up (va_up (va_up (va_up (va_up (va_up (va_up (fun _ => none) 0 (some (z + 58))) 1 (some (z + 78))) 2 (some (z + 98))) 3 (some (z + 116))) 4 (some (z + 132))) 5 (some (z + 146))) 6 (some (z + 158))) 7 (some (z + 168))) 8 (some (z + 176)))))))) ∨ wT g (z + 50) (z + 51) 100 q ∨ wT g (z + 52) (z + 53) 100 q ∨ wT g (z + 54) (z + 55) 300 q ∨ wT g (z + 56) (z + 57) 300 q ∨ pT g (z + 58) (z + 59) 8 100 q ∨ pT g (z + 78) (z + 79) 8 100 q ∨ pT g (z + 98) (z + 99) 7 100 q ∨ pT g (z + 116) (z + 117) 6 100 q ∨ pT g (z + 132) (z + 133) 5 100 q ∨ pT g (z + 146) (z + 147) 4 100 q ∨ pT g (z + 158) (z + 159) 3 100 q ∨ pT g (z + 168) (z + 169) 2 100 q ∨ pT g (z + 176) (z + 177) 1 100 q ∨ q = (z + 182, .inr (2, [.null, .int 0]))) Y hz hw hS rfl inA_X2 tyX2 tyX2_ok mw_45 mw_14 mw_15 (fun j hj => by rcases (show j = 0 ∨ j = 1 by omega) with rfl | rfl <;> rfl) (Nat.le_of_ble_eq_true rfl) (Nat.le_of_ble_eq_true rfl) ?_ dX1_init_91 (fun H hw hz hS => ?_)
  · rintro q (h | h | h | h | h | h | h | h | h | h | h | h | h | h | h | h | h)
    · exact Or.inr (Or.inl h)
    · exact Or.inr (Or.inr (Or.inl h))
    · exact Or.inr (Or.inr (Or.inr (Or.inl h)))
    · exact Or.inr (Or.inr (Or.inr (Or.inr (Or.inl h))))
    · exact Or.inr (Or.inr (Or.inr (Or.inr (Or.inr (Or.inl h)))))
    · exact Or.inr (Or.inr (Or.inr (Or.inr (Or.inr (Or.inr (Or.inl h))))))
    · exact Or.inr (Or.inr (Or.inr (Or.inr (Or.inr (Or.inr (Or.inr (Or.inl h)))))))
    · exact Or.inr (Or.inr (Or.inr (Or.inr (Or.inr (Or.inr (Or.inr (Or.inr (Or.inl h))))))))
    · exact Or.inr (Or.inr (Or.inr (Or.inr (Or.inr (Or.inr (Or.inr (Or.inr (Or.inr (Or.inl h)))))))))
    · exact Or.inr (Or.inr (Or.inr (Or.inr (Or.inr (Or.inr (Or.inr (Or.inr (Or.inr (Or.inr (Or.inl h))))))))))
    · exact Or.inr (Or.inr (Or.inr (Or.inr (Or.inr (Or.inr (Or.inr (Or.inr (Or.inr (Or.inr (Or.inr (Or.inl h)))))))))))
    · exact Or.inr (Or.inr (Or.inr (Or.inr (Or.inr (Or.inr (Or.inr (Or.inr (Or.inr (Or.inr (Or.inr (Or.inr (Or.inl h))))))))))))
    · exact Or.inr (Or.inr (Or.inr (Or.inr (Or.inr (Or.inr (Or.inr (Or.inr (Or.inr (Or.inr (Or.inr (Or.inr (Or.inr (Or.inl h)))))))))))))
    · exact Or.inr (Or.inr (Or.inr (Or.inr (Or.inr (Or.inr (Or.inr (Or.inr (Or.inr (Or.inr (Or.inr (Or.inr (Or.inr (Or.inr (Or.inl h))))))))))))))
    · exact Or.inr (Or.inr (Or.inr (Or.inr (Or.inr (Or.inr (Or.inr (Or.inr (Or.inr (Or.inr (Or.inr (Or.inr (Or.inr (Or.inr (Or.inr (Or.inl h)))))))))))))))
    · exact Or.inr (Or.inr (Or.inr (Or.inr (Or.inr (Or.inr (Or.inr (Or.inr (Or.inr (Or.inr (Or.inr (Or.inr (Or.inr (Or.inr (Or.inr (Or.inr h)))))))))))))))
    · exact Or.inl h
  replace hz : H.size = z + 183 := hz
  refine W.widen (k := 183) (n := 10888) (Nat.le_of_ble_eq_true rfl) (Nat.le_of_ble_eq_true rfl) ?_
  refine lv_dup hx hb dX1_init_94 rfl ?_
  refine lv_bipush (v := (8 : Int32)) hx hb dX1_init_95 (by decide) ?_
  refine lv_bipush (v := (9 : Int32)) hx hb dX1_init_97 (by decide) ?_
  refine lv_iload_n hx hb dX1_init_99 rfl (lv_at hl 0 rfl) ?_
  refine lv_isub hx hb dX1_init_100 ?_
  rw [show (9 : Int32) - (9 : Int32) = (0 : Int32) by decide]
  refine va_mmin hx hb (hml.trans hl.1.symm) hown (hts _ mw_52) (hts _ mw_53) (hts _ mw_54) (hts _ mw_55) (Nat.le_of_ble_eq_true rfl) (Nat.le_of_ble_eq_true rfl) (Nat.le_of_ble_eq_true rfl) (Nat.le_of_ble_eq_true rfl) dX1_init_101 ?_
  rw [show (if (0 : Int32) < (8 : Int32) then (0 : Int32) else (8 : Int32)) = (0 : Int32) by decide]
  refine lv_bipush (v := (100 : Int32)) hx hb dX1_init_104 (by decide) ?_
  refine n_callI (n := 2) (T' := fun q => q = (b, .inr (1, [.ref (z), .ref (z + 49), .ref (z + 50), .ref (z + 52), .ref (z + 54), .ref (z + 56), .int 0])) ∨ bT g (z) (z + 1) q ∨ q = (z + 49, .inl (g.2.2.2.2, 10, .inr (.inr (.inr (.inr (va_up (va_up (va_up (va_up (va_up (va_up (va_up (va_up (va_up (fun _ => none) 0 (some (z + 58))) 1 (some (z + 78))) 2 (some (z + 98))) 3 (some (z + 116))) 4 (some (z + 132))) 5 (some (z + 146))) 6 (some (z + 158))) 7 (some (z + 168))) 8 (some (z + 176)))))))) ∨ wT g (z + 50) (z + 51) 100 q ∨ wT g (z + 52) (z + 53) 100 q ∨ wT g (z + 54) (z + 55) 300 q ∨ wT g (z + 56) (z + 57) 300 q ∨ pT g (z + 58) (z + 59) 8 100 q ∨ pT g (z + 78) (z + 79) 8 100 q ∨ pT g (z + 98) (z + 99) 7 100 q ∨ pT g (z + 116) (z + 117) 6 100 q ∨ pT g (z + 132) (z + 133) 5 100 q ∨ pT g (z + 146) (z + 147) 4 100 q ∨ pT g (z + 158) (z + 159) 3 100 q ∨ pT g (z + 168) (z + 169) 2 100 q ∨ pT g (z + 176) (z + 177) 1 100 q ∨ pT g (z + 182) (z + 183) 0 100 q) (As := [.int (0 : Int32), .int (100 : Int32)]) (rest := [.ref (z + 182), .int (9 : Int32), .ref (z + 49)]) Y hk2 hl.1 hz hw hS (Or.inr (Nat.le_add_right z _)) (fun q hq => Or.inr (Nat.le_trans (Nat.le_add_right z _) hq)) (kX2_init (b := z + 182) (z := z + 183) (t := 0) (r := 100) (Nat.lt_succ_self _) (by decide) (by decide)) (fun q h => (Or.inr (Or.inr (Or.inr (Or.inr (Or.inr (Or.inr (Or.inr (Or.inr (Or.inr (Or.inr (Or.inr (Or.inr (Or.inr (Or.inr (Or.inr (Or.inr h))))))))))))))))) mw_70 mw_23 mw_15 mw_24 rfl (by decide +kernel) rfl rfl ⟨Nat.le_of_ble_eq_true rfl, Nat.le_of_ble_eq_true rfl⟩ ⟨Nat.le_of_ble_eq_true rfl, Nat.le_of_ble_eq_true rfl⟩ rfl rfl (Nat.le_of_ble_eq_true rfl) (oX1_init_30 hbz) dX1_init_106 (fun H locs hw hz hS => ?_)
  replace hz : H.size = z + 186 := hz
  refine W.widen (k := 186) (n := 10992) (Nat.le_of_ble_eq_true rfl) (Nat.le_of_ble_eq_true rfl) ?_
  refine n_aast (T' := fun q => q = (b, .inr (1, [.ref (z), .ref (z + 49), .ref (z + 50), .ref (z + 52), .ref (z + 54), .ref (z + 56), .int 0])) ∨ bT g (z) (z + 1) q ∨ q = (z + 49, .inl (g.2.2.2.2, 10, .inr (.inr (.inr (.inr (va_up (va_up (va_up (va_up (va_up (va_up (va_up (va_up (va_up (va_up (fun _ => none) 0 (some (z + 58))) 1 (some (z + 78))) 2 (some (z + 98))) 3 (some (z + 116))) 4 (some (z + 132))) 5 (some (z + 146))) 6 (some (z + 158))) 7 (some (z + 168))) 8 (some (z + 176))) 9 (some (z + 182)))))))) ∨ wT g (z + 50) (z + 51) 100 q ∨ wT g (z + 52) (z + 53) 100 q ∨ wT g (z + 54) (z + 55) 300 q ∨ wT g (z + 56) (z + 57) 300 q ∨ pT g (z + 58) (z + 59) 8 100 q ∨ pT g (z + 78) (z + 79) 8 100 q ∨ pT g (z + 98) (z + 99) 7 100 q ∨ pT g (z + 116) (z + 117) 6 100 q ∨ pT g (z + 132) (z + 133) 5 100 q ∨ pT g (z + 146) (z + 147) 4 100 q ∨ pT g (z + 158) (z + 159) 3 100 q ∨ pT g (z + 168) (z + 169) 2 100 q ∨ pT g (z + 176) (z + 177) 1 100 q ∨ pT g (z + 182) (z + 183) 0 100 q) (r := (RX2, TX2, 2)) Y hw hS (Or.inr (Nat.le_add_right z _)) (Or.inr (Or.inr (Or.inl rfl))) 3 rfl (Or.inr (Or.inr (Or.inr (Or.inr (Or.inr (Or.inr (Or.inr (Or.inr (Or.inr (Or.inr (Or.inr (Or.inr (Or.inr (Or.inr (Or.inr (Or.inr (Or.inl rfl))))))))))))))))) rfl (by unfold vp_in; decide) (oX1_init_31 hbz) dX1_init_109 (fun H locs hw hz2 hS => ?_)
  replace hz := hz2.trans hz
  clear hz2
  refine lv_iinc (v := (10 : Int32)) (lv' := [(1, .int (10 : Int32)), (0, .ref b)]) hx hb dX1_init_110 hl (k := 0) rfl (by decide) (by decide) rfl (fun ls hl => ?_)
  refine lv_goto (tgt := 80) hx hb dX1_init_113 (by decide) ?_
  refine lv_iload_n hx hb dX1_init_80 rfl (lv_at hl 0 rfl) ?_
  refine lv_bipush (v := (10 : Int32)) hx hb dX1_init_81 (by decide) ?_
  refine lv_icmp_ge (tgt := 116) hx hb dX1_init_83 (by decide) (fun hc => ?_) (fun hc => ?_)
  rotate_left
  · exact absurd (by decide) hc
  clear hc
  refine W.widen (k := 186) (n := 10992) (Nat.le_of_ble_eq_true rfl) (Nat.le_of_ble_eq_true rfl) ?_
  exact n_vret Y hr hw hz hS dX1_init_116
theorem oX4_init_1 {g : mG} {b z : Nat} (hbz : b < z) : ∀ q : Nat × va_E, (fun q => q = (b, .inr (4, [.ref (z), .null, .null, .int 0, .int 0, .int 0, .int 0])) ∨ q = (z, .inl (g.2.2.2.2, 8, .inr (.inr (.inr (.inr (fun _ => none))))))) q → q = (b, .inr (4, [.ref (z), .null, .null, .int 0, .int 0, .int 0, .int 0])) ∨ ((fun q => q = (b, .inr (4, [.null, .null, .null, .int 0, .int 0, .int 0, .int 0])) ∨ q = (z, .inl (g.2.2.2.2, 8, .inr (.inr (.inr (.inr (fun _ => none))))))) q ∧ q.1 ≠ b) := by
  rintro q (h | h)
  · exact Or.inl h
  · exact Or.inr ⟨(Or.inr h), (by rw [h]; show (z : Nat) ≠ b; omega)⟩
theorem oX4_init_2 {g : mG} {b z : Nat} (hbz : b < z) : ∀ q : Nat × va_E, (fun q => q = (b, .inr (4, [.ref (z), .null, .null, .int 0, .int 0, .int 0, .int 0])) ∨ q = (z, .inl (g.2.2.2.2, 8, .inr (.inr (.inr (.inr (fun _ => none)))))) ∨ pT g (z + 1) (z + 2) 8 6 q) q → pT g (z + 1) (z + 2) 8 6 q ∨ ((fun q => q = (b, .inr (4, [.ref (z), .null, .null, .int 0, .int 0, .int 0, .int 0])) ∨ q = (z, .inl (g.2.2.2.2, 8, .inr (.inr (.inr (.inr (fun _ => none)))))) ∨ q = (z + 1, .inr (2, [.null, .int 0]))) q ∧ q.1 ≠ z + 1) := by
  rintro q (h | h | h)
  · exact Or.inr ⟨(Or.inl h), (by rw [h]; show (b : Nat) ≠ z + 1; omega)⟩
  · exact Or.inr ⟨(Or.inr (Or.inl h)), (by rw [h]; show (z : Nat) ≠ z + 1; omega)⟩
  · exact Or.inl h
theorem oX4_init_3 {g : mG} {b z : Nat} (hbz : b < z) : ∀ q : Nat × va_E, (fun q => q = (b, .inr (4, [.ref (z), .null, .null, .int 0, .int 0, .int 0, .int 0])) ∨ q = (z, .inl (g.2.2.2.2, 8, .inr (.inr (.inr (.inr (va_up (fun _ => none) 0 (some (z + 1)))))))) ∨ pT g (z + 1) (z + 2) 8 6 q) q → q = (z, .inl (g.2.2.2.2, 8, .inr (.inr (.inr (.inr (va_up (fun _ => none) 0 (some (z + 1)))))))) ∨ ((fun q => q = (b, .inr (4, [.ref (z), .null, .null, .int 0, .int 0, .int 0, .int 0])) ∨ q = (z, .inl (g.2.2.2.2, 8, .inr (.inr (.inr (.inr (fun _ => none)))))) ∨ pT g (z + 1) (z + 2) 8 6 q) q ∧ q.1 ≠ z) := by
  rintro q (h | h | h)
  · exact Or.inr ⟨(Or.inl h), (by rw [h]; show (b : Nat) ≠ z; omega)⟩
  · exact Or.inl h
  · exact Or.inr ⟨(Or.inr (Or.inr h)), (by have h9 := pT_in h; omega)⟩
theorem oX4_init_4 {g : mG} {b z : Nat} (hbz : b < z) : ∀ q : Nat × va_E, (fun q => q = (b, .inr (4, [.ref (z), .null, .null, .int 0, .int 0, .int 0, .int 0])) ∨ q = (z, .inl (g.2.2.2.2, 8, .inr (.inr (.inr (.inr (va_up (fun _ => none) 0 (some (z + 1)))))))) ∨ pT g (z + 1) (z + 2) 8 6 q ∨ pT g (z + 21) (z + 22) 8 6 q) q → pT g (z + 21) (z + 22) 8 6 q ∨ ((fun q => q = (b, .inr (4, [.ref (z), .null, .null, .int 0, .int 0, .int 0, .int 0])) ∨ q = (z, .inl (g.2.2.2.2, 8, .inr (.inr (.inr (.inr (va_up (fun _ => none) 0 (some (z + 1)))))))) ∨ pT g (z + 1) (z + 2) 8 6 q ∨ q = (z + 21, .inr (2, [.null, .int 0]))) q ∧ q.1 ≠ z + 21) := by
  rintro q (h | h | h | h)
  · exact Or.inr ⟨(Or.inl h), (by rw [h]; show (b : Nat) ≠ z + 21; omega)⟩
  · exact Or.inr ⟨(Or.inr (Or.inl h)), (by rw [h]; show (z : Nat) ≠ z + 21; omega)⟩
  · exact Or.inr ⟨(Or.inr (Or.inr (Or.inl h))), (by have h9 := pT_in h; omega)⟩
  · exact Or.inl h
theorem oX4_init_5 {g : mG} {b z : Nat} (hbz : b < z) : ∀ q : Nat × va_E, (fun q => q = (b, .inr (4, [.ref (z), .null, .null, .int 0, .int 0, .int 0, .int 0])) ∨ q = (z, .inl (g.2.2.2.2, 8, .inr (.inr (.inr (.inr (va_up (va_up (fun _ => none) 0 (some (z + 1))) 1 (some (z + 21)))))))) ∨ pT g (z + 1) (z + 2) 8 6 q ∨ pT g (z + 21) (z + 22) 8 6 q) q → q = (z, .inl (g.2.2.2.2, 8, .inr (.inr (.inr (.inr (va_up (va_up (fun _ => none) 0 (some (z + 1))) 1 (some (z + 21)))))))) ∨ ((fun q => q = (b, .inr (4, [.ref (z), .null, .null, .int 0, .int 0, .int 0, .int 0])) ∨ q = (z, .inl (g.2.2.2.2, 8, .inr (.inr (.inr (.inr (va_up (fun _ => none) 0 (some (z + 1)))))))) ∨ pT g (z + 1) (z + 2) 8 6 q ∨ pT g (z + 21) (z + 22) 8 6 q) q ∧ q.1 ≠ z) := by
  rintro q (h | h | h | h)
  · exact Or.inr ⟨(Or.inl h), (by rw [h]; show (b : Nat) ≠ z; omega)⟩
  · exact Or.inl h
  · exact Or.inr ⟨(Or.inr (Or.inr (Or.inl h))), (by have h9 := pT_in h; omega)⟩
  · exact Or.inr ⟨(Or.inr (Or.inr (Or.inr h))), (by have h9 := pT_in h; omega)⟩
theorem oX4_init_6 {g : mG} {b z : Nat} (hbz : b < z) : ∀ q : Nat × va_E, (fun q => q = (b, .inr (4, [.ref (z), .null, .null, .int 0, .int 0, .int 0, .int 0])) ∨ q = (z, .inl (g.2.2.2.2, 8, .inr (.inr (.inr (.inr (va_up (va_up (fun _ => none) 0 (some (z + 1))) 1 (some (z + 21)))))))) ∨ pT g (z + 1) (z + 2) 8 6 q ∨ pT g (z + 21) (z + 22) 8 6 q ∨ pT g (z + 41) (z + 42) 8 6 q) q → pT g (z + 41) (z + 42) 8 6 q ∨ ((fun q => q = (b, .inr (4, [.ref (z), .null, .null, .int 0, .int 0, .int 0, .int 0])) ∨ q = (z, .inl (g.2.2.2.2, 8, .inr (.inr (.inr (.inr (va_up (va_up (fun _ => none) 0 (some (z + 1))) 1 (some (z + 21)))))))) ∨ pT g (z + 1) (z + 2) 8 6 q ∨ pT g (z + 21) (z + 22) 8 6 q ∨ q = (z + 41, .inr (2, [.null, .int 0]))) q ∧ q.1 ≠ z + 41) := by
  rintro q (h | h | h | h | h)
  · exact Or.inr ⟨(Or.inl h), (by rw [h]; show (b : Nat) ≠ z + 41; omega)⟩
  · exact Or.inr ⟨(Or.inr (Or.inl h)), (by rw [h]; show (z : Nat) ≠ z + 41; omega)⟩
  · exact Or.inr ⟨(Or.inr (Or.inr (Or.inl h))), (by have h9 := pT_in h; omega)⟩
  · exact Or.inr ⟨(Or.inr (Or.inr (Or.inr (Or.inl h)))), (by have h9 := pT_in h; omega)⟩
  · exact Or.inl h
theorem oX4_init_7 {g : mG} {b z : Nat} (hbz : b < z) : ∀ q : Nat × va_E, (fun q => q = (b, .inr (4, [.ref (z), .null, .null, .int 0, .int 0, .int 0, .int 0])) ∨ q = (z, .inl (g.2.2.2.2, 8, .inr (.inr (.inr (.inr (va_up (va_up (va_up (fun _ => none) 0 (some (z + 1))) 1 (some (z + 21))) 2 (some (z + 41)))))))) ∨ pT g (z + 1) (z + 2) 8 6 q ∨ pT g (z + 21) (z + 22) 8 6 q ∨ pT g (z + 41) (z + 42) 8 6 q) q → q = (z, .inl (g.2.2.2.2, 8, .inr (.inr (.inr (.inr (va_up (va_up (va_up (fun _ => none) 0 (some (z + 1))) 1 (some (z + 21))) 2 (some (z + 41)))))))) ∨ ((fun q => q = (b, .inr (4, [.ref (z), .null, .null, .int 0, .int 0, .int 0, .int 0])) ∨ q = (z, .inl (g.2.2.2.2, 8, .inr (.inr (.inr (.inr (va_up (va_up (fun _ => none) 0 (some (z + 1))) 1 (some (z + 21)))))))) ∨ pT g (z + 1) (z + 2) 8 6 q ∨ pT g (z + 21) (z + 22) 8 6 q ∨ pT g (z + 41) (z + 42) 8 6 q) q ∧ q.1 ≠ z) := by
  rintro q (h | h | h | h | h)
  · exact Or.inr ⟨(Or.inl h), (by rw [h]; show (b : Nat) ≠ z; omega)⟩
  · exact Or.inl h
  · exact Or.inr ⟨(Or.inr (Or.inr (Or.inl h))), (by have h9 := pT_in h; omega)⟩
  · exact Or.inr ⟨(Or.inr (Or.inr (Or.inr (Or.inl h)))), (by have h9 := pT_in h; omega)⟩
  · exact Or.inr ⟨(Or.inr (Or.inr (Or.inr (Or.inr h)))), (by have h9 := pT_in h; omega)⟩
theorem oX4_init_8 {g : mG} {b z : Nat} (hbz : b < z) : ∀ q : Nat × va_E, (fun q => q = (b, .inr (4, [.ref (z), .null, .null, .int 0, .int 0, .int 0, .int 0])) ∨ q = (z, .inl (g.2.2.2.2, 8, .inr (.inr (.inr (.inr (va_up (va_up (va_up (fun _ => none) 0 (some (z + 1))) 1 (some (z + 21))) 2 (some (z + 41)))))))) ∨ pT g (z + 1) (z + 2) 8 6 q ∨ pT g (z + 21) (z + 22) 8 6 q ∨ pT g (z + 41) (z + 42) 8 6 q ∨ pT g (z + 61) (z + 62) 8 6 q) q → pT g (z + 61) (z + 62) 8 6 q ∨ ((fun q => q = (b, .inr (4, [.ref (z), .null, .null, .int 0, .int 0, .int 0, .int 0])) ∨ q = (z, .inl (g.2.2.2.2, 8, .inr (.inr (.inr (.inr (va_up (va_up (va_up (fun _ => none) 0 (some (z + 1))) 1 (some (z + 21))) 2 (some (z + 41)))))))) ∨ pT g (z + 1) (z + 2) 8 6 q ∨ pT g (z + 21) (z + 22) 8 6 q ∨ pT g (z + 41) (z + 42) 8 6 q ∨ q = (z + 61, .inr (2, [.null, .int 0]))) q ∧ q.1 ≠ z + 61) := by
  rintro q (h | h | h | h | h | h)
  · exact Or.inr ⟨(Or.inl h), (by rw [h]; show (b : Nat) ≠ z + 61; omega)⟩
  · exact Or.inr ⟨(Or.inr (Or.inl h)), (by rw [h]; show (z : Nat) ≠ z + 61; omega)⟩
  · exact Or.inr ⟨(Or.inr (Or.inr (Or.inl h))), (by have h9 := pT_in h; omega)⟩
  · exact Or.inr ⟨(Or.inr (Or.inr (Or.inr (Or.inl h)))), (by have h9 := pT_in h; omega)⟩
  · exact Or.inr ⟨(Or.inr (Or.inr (Or.inr (Or.inr (Or.inl h))))), (by have h9 := pT_in h; omega)⟩
  · exact Or.inl h
theorem oX4_init_9 {g : mG} {b z : Nat} (hbz : b < z) : ∀ q : Nat × va_E, (fun q => q = (b, .inr (4, [.ref (z), .null, .null, .int 0, .int 0, .int 0, .int 0])) ∨ q = (z, .inl (g.2.2.2.2, 8, .inr (.inr (.inr (.inr (va_up (va_up (va_up (va_up (fun _ => none) 0 (some (z + 1))) 1 (some (z + 21))) 2 (some (z + 41))) 3 (some (z + 61)))))))) ∨ pT g (z + 1) (z + 2) 8 6 q ∨ pT g (z + 21) (z + 22) 8 6 q ∨ pT g (z + 41) (z + 42) 8 6 q ∨ pT g (z + 61) (z + 62) 8 6 q) q → q = (z, .inl (g.2.2.2.2, 8, .inr (.inr (.inr (.inr (va_up (va_up (va_up (va_up (fun _ => none) 0 (some (z + 1))) 1 (some (z + 21))) 2 (some (z + 41))) 3 (some (z + 61)))))))) ∨ ((fun q => q = (b, .inr (4, [.ref (z), .null, .null, .int 0, .int 0, .int 0, .int 0])) ∨ q = (z, .inl (g.2.2.2.2, 8, .inr (.inr (.inr (.inr (va_up (va_up (va_up (fun _ => none) 0 (some (z + 1))) 1 (some (z + 21))) 2 (some (z + 41)))))))) ∨ pT g (z + 1) (z + 2) 8 6 q ∨ pT g (z + 21) (z + 22) 8 6 q ∨ pT g (z + 41) (z + 42) 8 6 q ∨ pT g (z + 61) (z + 62) 8 6 q) q ∧ q.1 ≠ z) := by
  rintro q (h | h | h | h | h | h)
  · exact Or.inr ⟨(Or.inl h), (by rw [h]; show (b : Nat) ≠ z; omega)⟩
  · exact Or.inl h
  · exact Or.inr ⟨(Or.inr (Or.inr (Or.inl h))), (by have h9 := pT_in h; omega)⟩
  · exact Or.inr ⟨(Or.inr (Or.inr (Or.inr (Or.inl h)))), (by have h9 := pT_in h; omega)⟩
  · exact Or.inr ⟨(Or.inr (Or.inr (Or.inr (Or.inr (Or.inl h))))), (by have h9 := pT_in h; omega)⟩
  · exact Or.inr ⟨(Or.inr (Or.inr (Or.inr (Or.inr (Or.inr h))))), (by have h9 := pT_in h; omega)⟩
theorem oX4_init_10 {g : mG} {b z : Nat} (hbz : b < z) : ∀ q : Nat × va_E, (fun q => q = (b, .inr (4, [.ref (z), .null, .null, .int 0, .int 0, .int 0, .int 0])) ∨ q = (z, .inl (g.2.2.2.2, 8, .inr (.inr (.inr (.inr (va_up (va_up (va_up (va_up (fun _ => none) 0 (some (z + 1))) 1 (some (z + 21))) 2 (some (z + 41))) 3 (some (z + 61)))))))) ∨ pT g (z + 1) (z + 2) 8 6 q ∨ pT g (z + 21) (z + 22) 8 6 q ∨ pT g (z + 41) (z + 42) 8 6 q ∨ pT g (z + 61) (z + 62) 8 6 q ∨ pT g (z + 81) (z + 82) 8 6 q) q → pT g (z + 81) (z + 82) 8 6 q ∨ ((fun q => q = (b, .inr (4, [.ref (z), .null, .null, .int 0, .int 0, .int 0, .int 0])) ∨ q = (z, .inl (g.2.2.2.2, 8, .inr (.inr (.inr (.inr (va_up (va_up (va_up (va_up (fun _ => none) 0 (some (z + 1))) 1 (some (z + 21))) 2 (some (z + 41))) 3 (some (z + 61)))))))) ∨ pT g (z + 1) (z + 2) 8 6 q ∨ pT g (z + 21) (z + 22) 8 6 q ∨ pT g (z + 41) (z + 42) 8 6 q ∨ pT g (z + 61) (z + 62) 8 6 q ∨ q = (z + 81, .inr (2, [.null, .int 0]))) q ∧ q.1 ≠ z + 81) := by
  rintro q (h | h | h | h | h | h | h)
  · exact Or.inr ⟨(Or.inl h), (by rw [h]; show (b : Nat) ≠ z + 81; omega)⟩
  · exact Or.inr ⟨(Or.inr (Or.inl h)), (by rw [h]; show (z : Nat) ≠ z + 81; omega)⟩
  · exact Or.inr ⟨(Or.inr (Or.inr (Or.inl h))), (by have h9 := pT_in h; omega)⟩
  · exact Or.inr ⟨(Or.inr (Or.inr (Or.inr (Or.inl h)))), (by have h9 := pT_in h; omega)⟩
  · exact Or.inr ⟨(Or.inr (Or.inr (Or.inr (Or.inr (Or.inl h))))), (by have h9 := pT_in h; omega)⟩
  · exact Or.inr ⟨(Or.inr (Or.inr (Or.inr (Or.inr (Or.inr (Or.inl h)))))), (by have h9 := pT_in h; omega)⟩
  · exact Or.inl h
theorem oX4_init_11 {g : mG} {b z : Nat} (hbz : b < z) : ∀ q : Nat × va_E, (fun q => q = (b, .inr (4, [.ref (z), .null, .null, .int 0, .int 0, .int 0, .int 0])) ∨ q = (z, .inl (g.2.2.2.2, 8, .inr (.inr (.inr (.inr (va_up (va_up (va_up (va_up (va_up (fun _ => none) 0 (some (z + 1))) 1 (some (z + 21))) 2 (some (z + 41))) 3 (some (z + 61))) 4 (some (z + 81)))))))) ∨ pT g (z + 1) (z + 2) 8 6 q ∨ pT g (z + 21) (z + 22) 8 6 q ∨ pT g (z + 41) (z + 42) 8 6 q ∨ pT g (z + 61) (z + 62) 8 6 q ∨ pT g (z + 81) (z + 82) 8 6 q) q → q = (z, .inl (g.2.2.2.2, 8, .inr (.inr (.inr (.inr (va_up (va_up (va_up (va_up (va_up (fun _ => none) 0 (some (z + 1))) 1 (some (z + 21))) 2 (some (z + 41))) 3 (some (z + 61))) 4 (some (z + 81)))))))) ∨ ((fun q => q = (b, .inr (4, [.ref (z), .null, .null, .int 0, .int 0, .int 0, .int 0])) ∨ q = (z, .inl (g.2.2.2.2, 8, .inr (.inr (.inr (.inr (va_up (va_up (va_up (va_up (fun _ => none) 0 (some (z + 1))) 1 (some (z + 21))) 2 (some (z + 41))) 3 (some (z + 61)))))))) ∨ pT g (z + 1) (z + 2) 8 6 q ∨ pT g (z + 21) (z + 22) 8 6 q ∨ pT g (z + 41) (z + 42) 8 6 q ∨ pT g (z + 61) (z + 62) 8 6 q ∨ pT g (z + 81) (z + 82) 8 6 q) q ∧ q.1 ≠ z) := by
  rintro q (h | h | h | h | h | h | h)
  · exact Or.inr ⟨(Or.inl h), (by rw [h]; show (b : Nat) ≠ z; omega)⟩
  · exact Or.inl h
  · exact Or.inr ⟨(Or.inr (Or.inr (Or.inl h))), (by have h9 := pT_in h; omega)⟩
  · exact Or.inr ⟨(Or.inr (Or.inr (Or.inr (Or.inl h)))), (by have h9 := pT_in h; omega)⟩
  · exact Or.inr ⟨(Or.inr (Or.inr (Or.inr (Or.inr (Or.inl h))))), (by have h9 := pT_in h; omega)⟩
  · exact Or.inr ⟨(Or.inr (Or.inr (Or.inr (Or.inr (Or.inr (Or.inl h)))))), (by have h9 := pT_in h; omega)⟩
  · exact Or.inr ⟨(Or.inr (Or.inr (Or.inr (Or.inr (Or.inr (Or.inr h)))))), (by have h9 := pT_in h; omega)⟩
theorem oX4_init_12 {g : mG} {b z : Nat} (hbz : b < z) : ∀ q : Nat × va_E, (fun q => q = (b, .inr (4, [.ref (z), .null, .null, .int 0, .int 0, .int 0, .int 0])) ∨ q = (z, .inl (g.2.2.2.2, 8, .inr (.inr (.inr (.inr (va_up (va_up (va_up (va_up (va_up (fun _ => none) 0 (some (z + 1))) 1 (some (z + 21))) 2 (some (z + 41))) 3 (some (z + 61))) 4 (some (z + 81)))))))) ∨ pT g (z + 1) (z + 2) 8 6 q ∨ pT g (z + 21) (z + 22) 8 6 q ∨ pT g (z + 41) (z + 42) 8 6 q ∨ pT g (z + 61) (z + 62) 8 6 q ∨ pT g (z + 81) (z + 82) 8 6 q ∨ pT g (z + 101) (z + 102) 8 6 q) q → pT g (z + 101) (z + 102) 8 6 q ∨ ((fun q => q = (b, .inr (4, [.ref (z), .null, .null, .int 0, .int 0, .int 0, .int 0])) ∨ q = (z, .inl (g.2.2.2.2, 8, .inr (.inr (.inr (.inr (va_up (va_up (va_up (va_up (va_up (fun _ => none) 0 (some (z + 1))) 1 (some (z + 21))) 2 (some (z + 41))) 3 (some (z + 61))) 4 (some (z + 81)))))))) ∨ pT g (z + 1) (z + 2) 8 6 q ∨ pT g (z + 21) (z + 22) 8 6 q ∨ pT g (z + 41) (z + 42) 8 6 q ∨ pT g (z + 61) (z + 62) 8 6 q ∨ pT g (z + 81) (z + 82) 8 6 q ∨ q = (z + 101, .inr (2, [.null, .int 0]))) q ∧ q.1 ≠ z + 101) := by
  rintro q (h | h | h | h | h | h | h | h)
  · exact Or.inr ⟨(Or.inl h), (by rw [h]; show (b : Nat) ≠ z + 101; omega)⟩
  · exact Or.inr ⟨(Or.inr (Or.inl h)), (by rw [h]; show (z : Nat) ≠ z + 101; omega)⟩
  · exact Or.inr ⟨(Or.inr (Or.inr (Or.inl h))), (by have h9 := pT_in h; omega)⟩
  · exact Or.inr ⟨(Or.inr (Or.inr (Or.inr (Or.inl h)))), (by have h9 := pT_in h; omega)⟩
  · exact Or.inr ⟨(Or.inr (Or.inr (Or.inr (Or.inr (Or.inl h))))), (by have h9 := pT_in h; omega)⟩
  · exact Or.inr ⟨(Or.inr (Or.inr (Or.inr (Or.inr (Or.inr (Or.inl h)))))), (by have h9 := pT_in h; omega)⟩
  · exact Or.inr ⟨(Or.inr (Or.inr (Or.inr (Or.inr (Or.inr (Or.inr (Or.inl h))))))), (by have h9 := pT_in h; omega)⟩
  · exact Or.inl h
theorem oX4_init_13 {g : mG} {b z : Nat} (hbz : b < z) : ∀ q : Nat × va_E, (fun q => q = (b, .inr (4, [.ref (z), .null, .null, .int 0, .int 0, .int 0, .int 0])) ∨ q = (z, .inl (g.2.2.2.2, 8, .inr (.inr (.inr (.inr (va_up (va_up (va_up (va_up (va_up (va_up (fun _ => none) 0 (some (z + 1))) 1 (some (z + 21))) 2 (some (z + 41))) 3 (some (z + 61))) 4 (some (z + 81))) 5 (some (z + 101)))))))) ∨ pT g (z + 1) (z + 2) 8 6 q ∨ pT g (z + 21) (z + 22) 8 6 q ∨ pT g (z + 41) (z + 42) 8 6 q ∨ pT g (z + 61) (z + 62) 8 6 q ∨ pT g (z + 81) (z + 82) 8 6 q ∨ pT g (z + 101) (z + 102) 8 6 q) q → q = (z, .inl (g.2.2.2.2, 8, .inr (.inr (.inr (.inr (va_up (va_up (va_up (va_up (va_up (va_up (fun _ => none) 0 (some (z + 1))) 1 (some (z + 21))) 2 (some (z + 41))) 3 (some (z + 61))) 4 (some (z + 81))) 5 (some (z + 101)))))))) ∨ ((fun q => q = (b, .inr (4, [.ref (z), .null, .null, .int 0, .int 0, .int 0, .int 0])) ∨ q = (z, .inl (g.2.2.2.2, 8, .inr (.inr (.inr (.inr (va_up (va_up (va_up (va_up (va_up (fun _ => none) 0 (some (z + 1))) 1 (some (z + 21))) 2 (some (z + 41))) 3 (some (z + 61))) 4 (some (z + 81)))))))) ∨ pT g (z + 1) (z + 2) 8 6 q ∨ pT g (z + 21) (z + 22) 8 6 q ∨ pT g (z + 41) (z + 42) 8 6 q ∨ pT g (z + 61) (z + 62) 8 6 q ∨ pT g (z + 81) (z + 82) 8 6 q ∨ pT g (z + 101) (z + 102) 8 6 q) q ∧ q.1 ≠ z) := by
  rintro q (h | h | h | h | h | h | h | h)
  · exact Or.inr ⟨(Or.inl h), (by rw [h]; show (b : Nat) ≠ z; omega)⟩
  · exact Or.inl h
  · exact Or.inr ⟨(Or.inr (Or.inr (Or.inl h))), (by have h9 := pT_in h; omega)⟩
  · exact Or.inr ⟨(Or.inr (Or.inr (Or.inr (Or.inl h)))), (by have h9 := pT_in h; omega)⟩
  · exact Or.inr ⟨(Or.inr (Or.inr (Or.inr (Or.inr (Or.inl h))))), (by have h9 := pT_in h; omega)⟩
  · exact Or.inr ⟨(Or.inr (Or.inr (Or.inr (Or.inr (Or.inr (Or.inl h)))))), (by have h9 := pT_in h; omega)⟩
  · exact Or.inr ⟨(Or.inr (Or.inr (Or.inr (Or.inr (Or.inr (Or.inr (Or.inl h))))))), (by have h9 := pT_in h; omega)⟩
  · exact Or.inr ⟨(Or.inr (Or.inr (Or.inr (Or.inr (Or.inr (Or.inr (Or.inr h))))))), (by have h9 := pT_in h; omega)⟩
theorem oX4_init_14 {g : mG} {b z : Nat} (hbz : b < z) : ∀ q : Nat × va_E, (fun q => q = (b, .inr (4, [.ref (z), .null, .null, .int 0, .int 0, .int 0, .int 0])) ∨ q = (z, .inl (g.2.2.2.2, 8, .inr (.inr (.inr (.inr (va_up (va_up (va_up (va_up (va_up (va_up (fun _ => none) 0 (some (z + 1))) 1 (some (z + 21))) 2 (some (z + 41))) 3 (some (z + 61))) 4 (some (z + 81))) 5 (some (z + 101)))))))) ∨ pT g (z + 1) (z + 2) 8 6 q ∨ pT g (z + 21) (z + 22) 8 6 q ∨ pT g (z + 41) (z + 42) 8 6 q ∨ pT g (z + 61) (z + 62) 8 6 q ∨ pT g (z + 81) (z + 82) 8 6 q ∨ pT g (z + 101) (z + 102) 8 6 q ∨ pT g (z + 121) (z + 122) 8 6 q) q → pT g (z + 121) (z + 122) 8 6 q ∨ ((fun q => q = (b, .inr (4, [.ref (z), .null, .null, .int 0, .int 0, .int 0, .int 0])) ∨ q = (z, .inl (g.2.2.2.2, 8, .inr (.inr (.inr (.inr (va_up (va_up (va_up (va_up (va_up (va_up (fun _ => none) 0 (some (z + 1))) 1 (some (z + 21))) 2 (some (z + 41))) 3 (some (z + 61))) 4 (some (z + 81))) 5 (some (z + 101)))))))) ∨ pT g (z + 1) (z + 2) 8 6 q ∨ pT g (z + 21) (z + 22) 8 6 q ∨ pT g (z + 41) (z + 42) 8 6 q ∨ pT g (z + 61) (z + 62) 8 6 q ∨ pT g (z + 81) (z + 82) 8 6 q ∨ pT g (z + 101) (z + 102) 8 6 q ∨ q = (z + 121, .inr (2, [.null, .int 0]))) q ∧ q.1 ≠ z + 121) := by
  rintro q (h | h | h | h | h | h | h | h | h)
  · exact Or.inr ⟨(Or.inl h), (by rw [h]; show (b : Nat) ≠ z + 121; omega)⟩
  · exact Or.inr ⟨(Or.inr (Or.inl h)), (by rw [h]; show (z : Nat) ≠ z + 121; omega)⟩
  · exact Or.inr ⟨(Or.inr (Or.inr (Or.inl h))), (by have h9 := pT_in h; omega)⟩
  · exact Or.inr ⟨(Or.inr (Or.inr (Or.inr (Or.inl h)))), (by have h9 := pT_in h; omega)⟩
  · exact Or.inr ⟨(Or.inr (Or.inr (Or.inr (Or.inr (Or.inl h))))), (by have h9 := pT_in h; omega)⟩
  · exact Or.inr ⟨(Or.inr (Or.inr (Or.inr (Or.inr (Or.inr (Or.inl h)))))), (by have h9 := pT_in h; omega)⟩
  · exact Or.inr ⟨(Or.inr (Or.inr (Or.inr (Or.inr (Or.inr (Or.inr (Or.inl h))))))), (by have h9 := pT_in h; omega)⟩
  · exact Or.inr ⟨(Or.inr (Or.inr (Or.inr (Or.inr (Or.inr (Or.inr (Or.inr (Or.inl h)))))))), (by have h9 := pT_in h; omega)⟩
  · exact Or.inl h
theorem oX4_init_15 {g : mG} {b z : Nat} (hbz : b < z) : ∀ q : Nat × va_E, (fun q => q = (b, .inr (4, [.ref (z), .null, .null, .int 0, .int 0, .int 0, .int 0])) ∨ q = (z, .inl (g.2.2.2.2, 8, .inr (.inr (.inr (.inr (va_up (va_up (va_up (va_up (va_up (va_up (va_up (fun _ => none) 0 (some (z + 1))) 1 (some (z + 21))) 2 (some (z + 41))) 3 (some (z + 61))) 4 (some (z + 81))) 5 (some (z + 101))) 6 (some (z + 121)))))))) ∨ pT g (z + 1) (z + 2) 8 6 q ∨ pT g (z + 21) (z + 22) 8 6 q ∨ pT g (z + 41) (z + 42) 8 6 q ∨ pT g (z + 61) (z + 62) 8 6 q ∨ pT g (z + 81) (z + 82) 8 6 q ∨ pT g (z + 101) (z + 102) 8 6 q ∨ pT g (z + 121) (z + 122) 8 6 q) q → q = (z, .inl (g.2.2.2.2, 8, .inr (.inr (.inr (.inr (va_up (va_up (va_up (va_up (va_up (va_up (va_up (fun _ => none) 0 (some (z + 1))) 1 (some (z + 21))) 2 (some (z + 41))) 3 (some (z + 61))) 4 (some (z + 81))) 5 (some (z + 101))) 6 (some (z + 121)))))))) ∨ ((fun q => q = (b, .inr (4, [.ref (z), .null, .null, .int 0, .int 0, .int 0, .int 0])) ∨ q = (z, .inl (g.2.2.2.2, 8, .inr (.inr (.inr (.inr (va_up (va_up (va_up (va_up (va_up (va_up (fun _ => none) 0 (some (z + 1))) 1 (some (z + 21))) 2 (some (z + 41))) 3 (some (z + 61))) 4 (some (z + 81))) 5 (some (z + 101)))))))) ∨ pT g (z + 1) (z + 2) 8 6 q ∨ pT g (z + 21) (z + 22) 8 6 q ∨ pT g (z + 41) (z + 42) 8 6 q ∨ pT g (z + 61) (z + 62) 8 6 q ∨ pT g (z + 81) (z + 82) 8 6 q ∨ pT g (z + 101) (z + 102) 8 6 q ∨ pT g (z + 121) (z + 122) 8 6 q) q ∧ q.1 ≠ z) := by
  rintro q (h | h | h | h | h | h | h | h | h)
  · exact Or.inr ⟨(Or.inl h), (by rw [h]; show (b : Nat) ≠ z; omega)⟩
  · exact Or.inl h
  · exact Or.inr ⟨(Or.inr (Or.inr (Or.inl h))), (by have h9 := pT_in h; omega)⟩
  · exact Or.inr ⟨(Or.inr (Or.inr (Or.inr (Or.inl h)))), (by have h9 := pT_in h; omega)⟩
  · exact Or.inr ⟨(Or.inr (Or.inr (Or.inr (Or.inr (Or.inl h))))), (by have h9 := pT_in h; omega)⟩
  · exact Or.inr ⟨(Or.inr (Or.inr (Or.inr (Or.inr (Or.inr (Or.inl h)))))), (by have h9 := pT_in h; omega)⟩
  · exact Or.inr ⟨(Or.inr (Or.inr (Or.inr (Or.inr (Or.inr (Or.inr (Or.inl h))))))), (by have h9 := pT_in h; omega)⟩
  · exact Or.inr ⟨(Or.inr (Or.inr (Or.inr (Or.inr (Or.inr (Or.inr (Or.inr (Or.inl h)))))))), (by have h9 := pT_in h; omega)⟩
  · exact Or.inr ⟨(Or.inr (Or.inr (Or.inr (Or.inr (Or.inr (Or.inr (Or.inr (Or.inr h)))))))), (by have h9 := pT_in h; omega)⟩
theorem oX4_init_16 {g : mG} {b z : Nat} (hbz : b < z) : ∀ q : Nat × va_E, (fun q => q = (b, .inr (4, [.ref (z), .null, .null, .int 0, .int 0, .int 0, .int 0])) ∨ q = (z, .inl (g.2.2.2.2, 8, .inr (.inr (.inr (.inr (va_up (va_up (va_up (va_up (va_up (va_up (va_up (fun _ => none) 0 (some (z + 1))) 1 (some (z + 21))) 2 (some (z + 41))) 3 (some (z + 61))) 4 (some (z + 81))) 5 (some (z + 101))) 6 (some (z + 121)))))))) ∨ pT g (z + 1) (z + 2) 8 6 q ∨ pT g (z + 21) (z + 22) 8 6 q ∨ pT g (z + 41) (z + 42) 8 6 q ∨ pT g (z + 61) (z + 62) 8 6 q ∨ pT g (z + 81) (z + 82) 8 6 q ∨ pT g (z + 101) (z + 102) 8 6 q ∨ pT g (z + 121) (z + 122) 8 6 q ∨ pT g (z + 141) (z + 142) 8 6 q) q → pT g (z + 141) (z + 142) 8 6 q ∨ ((fun q => q = (b, .inr (4, [.ref (z), .null, .null, .int 0, .int 0, .int 0, .int 0])) ∨ q = (z, .inl (g.2.2.2.2, 8, .inr (.inr (.inr (.inr (va_up (va_up (va_up (va_up (va_up (va_up (va_up (fun _ => none) 0 (some (z + 1))) 1 (some (z + 21))) 2 (some (z + 41))) 3 (some (z + 61))) 4 (some (z + 81))) 5 (some (z + 101))) 6 (some (z + 121)))))))) ∨ pT g (z + 1) (z + 2) 8 6 q ∨ pT g (z + 21) (z + 22) 8 6 q ∨ pT g (z + 41) (z + 42) 8 6 q ∨ pT g (z + 61) (z + 62) 8 6 q ∨ pT g (z + 81) (z + 82) 8 6 q ∨ pT g (z + 101) (z + 102) 8 6 q ∨ pT g (z + 121) (z + 122) 8 6 q ∨ q = (z + 141, .inr (2, [.null, .int 0]))) q ∧ q.1 ≠ z + 141) := by
  rintro q (h | h | h | h | h | h | h | h | h | h)
  · exact Or.inr ⟨(Or.inl h), (by rw [h]; show (b : Nat) ≠ z + 141; omega)⟩
  · exact Or.inr ⟨(Or.inr (Or.inl h)), (by rw [h]; show (z : Nat) ≠ z + 141; omega)⟩
  · exact Or.inr ⟨(Or.inr (Or.inr (Or.inl h))), (by have h9 := pT_in h; omega)⟩
  · exact Or.inr ⟨(Or.inr (Or.inr (Or.inr (Or.inl h)))), (by have h9 := pT_in h; omega)⟩
  · exact Or.inr ⟨(Or.inr (Or.inr (Or.inr (Or.inr (Or.inl h))))), (by have h9 := pT_in h; omega)⟩
  · exact Or.inr ⟨(Or.inr (Or.inr (Or.inr (Or.inr (Or.inr (Or.inl h)))))), (by have h9 := pT_in h; omega)⟩
  · exact Or.inr ⟨(Or.inr (Or.inr (Or.inr (Or.inr (Or.inr (Or.inr (Or.inl h))))))), (by have h9 := pT_in h; omega)⟩
  · exact Or.inr ⟨(Or.inr (Or.inr (Or.inr (Or.inr (Or.inr (Or.inr (Or.inr (Or.inl h)))))))), (by have h9 := pT_in h; omega)⟩
  · exact Or.inr ⟨(Or.inr (Or.inr (Or.inr (Or.inr (Or.inr (Or.inr (Or.inr (Or.inr (Or.inl h))))))))), (by have h9 := pT_in h; omega)⟩
  · exact Or.inl h
theorem oX4_init_17 {g : mG} {b z : Nat} (hbz : b < z) : ∀ q : Nat × va_E, (fun q => q = (b, .inr (4, [.ref (z), .null, .null, .int 0, .int 0, .int 0, .int 0])) ∨ q = (z, .inl (g.2.2.2.2, 8, .inr (.inr (.inr (.inr (va_up (va_up (va_up (va_up (va_up (va_up (va_up (va_up (fun _ => none) 0 (some (z + 1))) 1 (some (z + 21))) 2 (some (z + 41))) 3 (some (z + 61))) 4 (some (z + 81))) 5 (some (z + 101))) 6 (some (z + 121))) 7 (some (z + 141)))))))) ∨ pT g (z + 1) (z + 2) 8 6 q ∨ pT g (z + 21) (z + 22) 8 6 q ∨ pT g (z + 41) (z + 42) 8 6 q ∨ pT g (z + 61) (z + 62) 8 6 q ∨ pT g (z + 81) (z + 82) 8 6 q ∨ pT g (z + 101) (z + 102) 8 6 q ∨ pT g (z + 121) (z + 122) 8 6 q ∨ pT g (z + 141) (z + 142) 8 6 q) q → q = (z, .inl (g.2.2.2.2, 8, .inr (.inr (.inr (.inr (va_up (va_up (va_up (va_up (va_up (va_up (va_up (va_up (fun _ => none) 0 (some (z + 1))) 1 (some (z + 21))) 2 (some (z + 41))) 3 (some (z + 61))) 4 (some (z + 81))) 5 (some (z + 101))) 6 (some (z + 121))) 7 (some (z + 141)))))))) ∨ ((fun q => q = (b, .inr (4, [.ref (z), .null, .null, .int 0, .int 0, .int 0, .int 0])) ∨ q = (z, .inl (g.2.2.2.2, 8, .inr (.inr (.inr (.inr (va_up (va_up (va_up (va_up (va_up (va_up (va_up (fun _ => none) 0 (some (z + 1))) 1 (some (z + 21))) 2 (some (z + 41))) 3 (some (z + 61))) 4 (some (z + 81))) 5 (some (z + 101))) 6 (some (z + 121)))))))) ∨ pT g (z + 1) (z + 2) 8 6 q ∨ pT g (z + 21) (z + 22) 8 6 q ∨ pT g (z + 41) (z + 42) 8 6 q ∨ pT g (z + 61) (z + 62) 8 6 q ∨ pT g (z + 81) (z + 82) 8 6 q ∨ pT g (z + 101) (z + 102) 8 6 q ∨ pT g (z + 121) (z + 122) 8 6 q ∨ pT g (z + 141) (z + 142) 8 6 q) q ∧ q.1 ≠ z) := by
  rintro q (h | h | h | h | h | h | h | h | h | h)
  · exact Or.inr ⟨(Or.inl h), (by rw [h]; show (b : Nat) ≠ z; omega)⟩
  · exact Or.inl h
  · exact Or.inr ⟨(Or.inr (Or.inr (Or.inl h))), (by have h9 := pT_in h; omega)⟩
  · exact Or.inr ⟨(Or.inr (Or.inr (Or.inr (Or.inl h)))), (by have h9 := pT_in h; omega)⟩
  · exact Or.inr ⟨(Or.inr (Or.inr (Or.inr (Or.inr (Or.inl h))))), (by have h9 := pT_in h; omega)⟩
  · exact Or.inr ⟨(Or.inr (Or.inr (Or.inr (Or.inr (Or.inr (Or.inl h)))))), (by have h9 := pT_in h; omega)⟩
  · exact Or.inr ⟨(Or.inr (Or.inr (Or.inr (Or.inr (Or.inr (Or.inr (Or.inl h))))))), (by have h9 := pT_in h; omega)⟩
  · exact Or.inr ⟨(Or.inr (Or.inr (Or.inr (Or.inr (Or.inr (Or.inr (Or.inr (Or.inl h)))))))), (by have h9 := pT_in h; omega)⟩
  · exact Or.inr ⟨(Or.inr (Or.inr (Or.inr (Or.inr (Or.inr (Or.inr (Or.inr (Or.inr (Or.inl h))))))))), (by have h9 := pT_in h; omega)⟩
  · exact Or.inr ⟨(Or.inr (Or.inr (Or.inr (Or.inr (Or.inr (Or.inr (Or.inr (Or.inr (Or.inr h))))))))), (by have h9 := pT_in h; omega)⟩
theorem oX4_init_18 {g : mG} {b z : Nat} (hbz : b < z) : ∀ q : Nat × va_E, (fun q => q = (b, .inr (4, [.ref (z), .null, .null, .int 0, .int 0, .int 0, .int 0])) ∨ q = (z, .inl (g.2.2.2.2, 8, .inr (.inr (.inr (.inr (va_up (va_up (va_up (va_up (va_up (va_up (va_up (va_up (fun _ => none) 0 (some (z + 1))) 1 (some (z + 21))) 2 (some (z + 41))) 3 (some (z + 61))) 4 (some (z + 81))) 5 (some (z + 101))) 6 (some (z + 121))) 7 (some (z + 141)))))))) ∨ pT g (z + 1) (z + 2) 8 6 q ∨ pT g (z + 21) (z + 22) 8 6 q ∨ pT g (z + 41) (z + 42) 8 6 q ∨ pT g (z + 61) (z + 62) 8 6 q ∨ pT g (z + 81) (z + 82) 8 6 q ∨ pT g (z + 101) (z + 102) 8 6 q ∨ pT g (z + 121) (z + 122) 8 6 q ∨ pT g (z + 141) (z + 142) 8 6 q ∨ hT g (z + 161) (z + 162) q) q → hT g (z + 161) (z + 162) q ∨ ((fun q => q = (b, .inr (4, [.ref (z), .null, .null, .int 0, .int 0, .int 0, .int 0])) ∨ q = (z, .inl (g.2.2.2.2, 8, .inr (.inr (.inr (.inr (va_up (va_up (va_up (va_up (va_up (va_up (va_up (va_up (fun _ => none) 0 (some (z + 1))) 1 (some (z + 21))) 2 (some (z + 41))) 3 (some (z + 61))) 4 (some (z + 81))) 5 (some (z + 101))) 6 (some (z + 121))) 7 (some (z + 141)))))))) ∨ pT g (z + 1) (z + 2) 8 6 q ∨ pT g (z + 21) (z + 22) 8 6 q ∨ pT g (z + 41) (z + 42) 8 6 q ∨ pT g (z + 61) (z + 62) 8 6 q ∨ pT g (z + 81) (z + 82) 8 6 q ∨ pT g (z + 101) (z + 102) 8 6 q ∨ pT g (z + 121) (z + 122) 8 6 q ∨ pT g (z + 141) (z + 142) 8 6 q ∨ q = (z + 161, .inr (1, [.null, .null, .null, .null, .null, .null, .int 0]))) q ∧ q.1 ≠ z + 161) := by
  rintro q (h | h | h | h | h | h | h | h | h | h | h)
  · exact Or.inr ⟨(Or.inl h), (by rw [h]; show (b : Nat) ≠ z + 161; omega)⟩
  · exact Or.inr ⟨(Or.inr (Or.inl h)), (by rw [h]; show (z : Nat) ≠ z + 161; omega)⟩
  · exact Or.inr ⟨(Or.inr (Or.inr (Or.inl h))), (by have h9 := pT_in h; omega)⟩
  · exact Or.inr ⟨(Or.inr (Or.inr (Or.inr (Or.inl h)))), (by have h9 := pT_in h; omega)⟩
  · exact Or.inr ⟨(Or.inr (Or.inr (Or.inr (Or.inr (Or.inl h))))), (by have h9 := pT_in h; omega)⟩
  · exact Or.inr ⟨(Or.inr (Or.inr (Or.inr (Or.inr (Or.inr (Or.inl h)))))), (by have h9 := pT_in h; omega)⟩
  · exact Or.inr ⟨(Or.inr (Or.inr (Or.inr (Or.inr (Or.inr (Or.inr (Or.inl h))))))), (by have h9 := pT_in h; omega)⟩
  · exact Or.inr ⟨(Or.inr (Or.inr (Or.inr (Or.inr (Or.inr (Or.inr (Or.inr (Or.inl h)))))))), (by have h9 := pT_in h; omega)⟩
  · exact Or.inr ⟨(Or.inr (Or.inr (Or.inr (Or.inr (Or.inr (Or.inr (Or.inr (Or.inr (Or.inl h))))))))), (by have h9 := pT_in h; omega)⟩
  · exact Or.inr ⟨(Or.inr (Or.inr (Or.inr (Or.inr (Or.inr (Or.inr (Or.inr (Or.inr (Or.inr (Or.inl h)))))))))), (by have h9 := pT_in h; omega)⟩
  · exact Or.inl h
theorem oX4_init_19 {g : mG} {b z : Nat} (hbz : b < z) : ∀ q : Nat × va_E, (fun q => q = (b, .inr (4, [.ref (z), .null, .ref (z + 161), .int 0, .int 0, .int 0, .int 0])) ∨ q = (z, .inl (g.2.2.2.2, 8, .inr (.inr (.inr (.inr (va_up (va_up (va_up (va_up (va_up (va_up (va_up (va_up (fun _ => none) 0 (some (z + 1))) 1 (some (z + 21))) 2 (some (z + 41))) 3 (some (z + 61))) 4 (some (z + 81))) 5 (some (z + 101))) 6 (some (z + 121))) 7 (some (z + 141)))))))) ∨ pT g (z + 1) (z + 2) 8 6 q ∨ pT g (z + 21) (z + 22) 8 6 q ∨ pT g (z + 41) (z + 42) 8 6 q ∨ pT g (z + 61) (z + 62) 8 6 q ∨ pT g (z + 81) (z + 82) 8 6 q ∨ pT g (z + 101) (z + 102) 8 6 q ∨ pT g (z + 121) (z + 122) 8 6 q ∨ pT g (z + 141) (z + 142) 8 6 q ∨ hT g (z + 161) (z + 162) q) q → q = (b, .inr (4, [.ref (z), .null, .ref (z + 161), .int 0, .int 0, .int 0, .int 0])) ∨ ((fun q => q = (b, .inr (4, [.ref (z), .null, .null, .int 0, .int 0, .int 0, .int 0])) ∨ q = (z, .inl (g.2.2.2.2, 8, .inr (.inr (.inr (.inr (va_up (va_up (va_up (va_up (va_up (va_up (va_up (va_up (fun _ => none) 0 (some (z + 1))) 1 (some (z + 21))) 2 (some (z + 41))) 3 (some (z + 61))) 4 (some (z + 81))) 5 (some (z + 101))) 6 (some (z + 121))) 7 (some (z + 141)))))))) ∨ pT g (z + 1) (z + 2) 8 6 q ∨ pT g (z + 21) (z + 22) 8 6 q ∨ pT g (z + 41) (z + 42) 8 6 q ∨ pT g (z + 61) (z + 62) 8 6 q ∨ pT g (z + 81) (z + 82) 8 6 q ∨ pT g (z + 101) (z + 102) 8 6 q ∨ pT g (z + 121) (z + 122) 8 6 q ∨ pT g (z + 141) (z + 142) 8 6 q ∨ hT g (z + 161) (z + 162) q) q ∧ q.1 ≠ b) := by
  rintro q (h | h | h | h | h | h | h | h | h | h | h)
  · exact Or.inl h
  · exact Or.inr ⟨(Or.inr (Or.inl h)), (by rw [h]; show (z : Nat) ≠ b; omega)⟩
  · exact Or.inr ⟨(Or.inr (Or.inr (Or.inl h))), (by have h9 := pT_in h; omega)⟩
  · exact Or.inr ⟨(Or.inr (Or.inr (Or.inr (Or.inl h)))), (by have h9 := pT_in h; omega)⟩
  · exact Or.inr ⟨(Or.inr (Or.inr (Or.inr (Or.inr (Or.inl h))))), (by have h9 := pT_in h; omega)⟩
  · exact Or.inr ⟨(Or.inr (Or.inr (Or.inr (Or.inr (Or.inr (Or.inl h)))))), (by have h9 := pT_in h; omega)⟩
  · exact Or.inr ⟨(Or.inr (Or.inr (Or.inr (Or.inr (Or.inr (Or.inr (Or.inl h))))))), (by have h9 := pT_in h; omega)⟩
  · exact Or.inr ⟨(Or.inr (Or.inr (Or.inr (Or.inr (Or.inr (Or.inr (Or.inr (Or.inl h)))))))), (by have h9 := pT_in h; omega)⟩
  · exact Or.inr ⟨(Or.inr (Or.inr (Or.inr (Or.inr (Or.inr (Or.inr (Or.inr (Or.inr (Or.inl h))))))))), (by have h9 := pT_in h; omega)⟩
  · exact Or.inr ⟨(Or.inr (Or.inr (Or.inr (Or.inr (Or.inr (Or.inr (Or.inr (Or.inr (Or.inr (Or.inl h)))))))))), (by have h9 := pT_in h; omega)⟩
  · exact Or.inr ⟨(Or.inr (Or.inr (Or.inr (Or.inr (Or.inr (Or.inr (Or.inr (Or.inr (Or.inr (Or.inr h)))))))))), (by have h9 := hT_in h; omega)⟩
theorem oX4_init_20 {g : mG} {b z : Nat} (hbz : b < z) : ∀ q : Nat × va_E, (fun q => q = (b, .inr (4, [.ref (z), .ref (z + 162), .ref (z + 161), .int 0, .int 0, .int 0, .int 0])) ∨ q = (z, .inl (g.2.2.2.2, 8, .inr (.inr (.inr (.inr (va_up (va_up (va_up (va_up (va_up (va_up (va_up (va_up (fun _ => none) 0 (some (z + 1))) 1 (some (z + 21))) 2 (some (z + 41))) 3 (some (z + 61))) 4 (some (z + 81))) 5 (some (z + 101))) 6 (some (z + 121))) 7 (some (z + 141)))))))) ∨ pT g (z + 1) (z + 2) 8 6 q ∨ pT g (z + 21) (z + 22) 8 6 q ∨ pT g (z + 41) (z + 42) 8 6 q ∨ pT g (z + 61) (z + 62) 8 6 q ∨ pT g (z + 81) (z + 82) 8 6 q ∨ pT g (z + 101) (z + 102) 8 6 q ∨ pT g (z + 121) (z + 122) 8 6 q ∨ pT g (z + 141) (z + 142) 8 6 q ∨ hT g (z + 161) (z + 162) q) q → q = (b, .inr (4, [.ref (z), .ref (z + 162), .ref (z + 161), .int 0, .int 0, .int 0, .int 0])) ∨ ((fun q => q = (b, .inr (4, [.ref (z), .null, .ref (z + 161), .int 0, .int 0, .int 0, .int 0])) ∨ q = (z, .inl (g.2.2.2.2, 8, .inr (.inr (.inr (.inr (va_up (va_up (va_up (va_up (va_up (va_up (va_up (va_up (fun _ => none) 0 (some (z + 1))) 1 (some (z + 21))) 2 (some (z + 41))) 3 (some (z + 61))) 4 (some (z + 81))) 5 (some (z + 101))) 6 (some (z + 121))) 7 (some (z + 141)))))))) ∨ pT g (z + 1) (z + 2) 8 6 q ∨ pT g (z + 21) (z + 22) 8 6 q ∨ pT g (z + 41) (z + 42) 8 6 q ∨ pT g (z + 61) (z + 62) 8 6 q ∨ pT g (z + 81) (z + 82) 8 6 q ∨ pT g (z + 101) (z + 102) 8 6 q ∨ pT g (z + 121) (z + 122) 8 6 q ∨ pT g (z + 141) (z + 142) 8 6 q ∨ hT g (z + 161) (z + 162) q) q ∧ q.1 ≠ b) := by
  rintro q (h | h | h | h | h | h | h | h | h | h | h)
  · exact Or.inl h
  · exact Or.inr ⟨(Or.inr (Or.inl h)), (by rw [h]; show (z : Nat) ≠ b; omega)⟩
  · exact Or.inr ⟨(Or.inr (Or.inr (Or.inl h))), (by have h9 := pT_in h; omega)⟩
  · exact Or.inr ⟨(Or.inr (Or.inr (Or.inr (Or.inl h)))), (by have h9 := pT_in h; omega)⟩
  · exact Or.inr ⟨(Or.inr (Or.inr (Or.inr (Or.inr (Or.inl h))))), (by have h9 := pT_in h; omega)⟩
  · exact Or.inr ⟨(Or.inr (Or.inr (Or.inr (Or.inr (Or.inr (Or.inl h)))))), (by have h9 := pT_in h; omega)⟩
  · exact Or.inr ⟨(Or.inr (Or.inr (Or.inr (Or.inr (Or.inr (Or.inr (Or.inl h))))))), (by have h9 := pT_in h; omega)⟩
  · exact Or.inr ⟨(Or.inr (Or.inr (Or.inr (Or.inr (Or.inr (Or.inr (Or.inr (Or.inl h)))))))), (by have h9 := pT_in h; omega)⟩
  · exact Or.inr ⟨(Or.inr (Or.inr (Or.inr (Or.inr (Or.inr (Or.inr (Or.inr (Or.inr (Or.inl h))))))))), (by have h9 := pT_in h; omega)⟩
  · exact Or.inr ⟨(Or.inr (Or.inr (Or.inr (Or.inr (Or.inr (Or.inr (Or.inr (Or.inr (Or.inr (Or.inl h)))))))))), (by have h9 := pT_in h; omega)⟩
  · exact Or.inr ⟨(Or.inr (Or.inr (Or.inr (Or.inr (Or.inr (Or.inr (Or.inr (Or.inr (Or.inr (Or.inr h)))))))))), (by have h9 := hT_in h; omega)⟩
theorem oX4_init_21 {g : mG} {b z : Nat} (hbz : b < z) : ∀ q : Nat × va_E, (fun q => q = (b, .inr (4, [.ref (z), .ref (z + 162), .ref (z + 161), .int (-1 : Int32), .int 0, .int 0, .int 0])) ∨ q = (z, .inl (g.2.2.2.2, 8, .inr (.inr (.inr (.inr (va_up (va_up (va_up (va_up (va_up (va_up (va_up (va_up (fun _ => none) 0 (some (z + 1))) 1 (some (z + 21))) 2 (some (z + 41))) 3 (some (z + 61))) 4 (some (z + 81))) 5 (some (z + 101))) 6 (some (z + 121))) 7 (some (z + 141)))))))) ∨ pT g (z + 1) (z + 2) 8 6 q ∨ pT g (z + 21) (z + 22) 8 6 q ∨ pT g (z + 41) (z + 42) 8 6 q ∨ pT g (z + 61) (z + 62) 8 6 q ∨ pT g (z + 81) (z + 82) 8 6 q ∨ pT g (z + 101) (z + 102) 8 6 q ∨ pT g (z + 121) (z + 122) 8 6 q ∨ pT g (z + 141) (z + 142) 8 6 q ∨ hT g (z + 161) (z + 162) q) q → q = (b, .inr (4, [.ref (z), .ref (z + 162), .ref (z + 161), .int (-1 : Int32), .int 0, .int 0, .int 0])) ∨ ((fun q => q = (b, .inr (4, [.ref (z), .ref (z + 162), .ref (z + 161), .int 0, .int 0, .int 0, .int 0])) ∨ q = (z, .inl (g.2.2.2.2, 8, .inr (.inr (.inr (.inr (va_up (va_up (va_up (va_up (va_up (va_up (va_up (va_up (fun _ => none) 0 (some (z + 1))) 1 (some (z + 21))) 2 (some (z + 41))) 3 (some (z + 61))) 4 (some (z + 81))) 5 (some (z + 101))) 6 (some (z + 121))) 7 (some (z + 141)))))))) ∨ pT g (z + 1) (z + 2) 8 6 q ∨ pT g (z + 21) (z + 22) 8 6 q ∨ pT g (z + 41) (z + 42) 8 6 q ∨ pT g (z + 61) (z + 62) 8 6 q ∨ pT g (z + 81) (z + 82) 8 6 q ∨ pT g (z + 101) (z + 102) 8 6 q ∨ pT g (z + 121) (z + 122) 8 6 q ∨ pT g (z + 141) (z + 142) 8 6 q ∨ hT g (z + 161) (z + 162) q) q ∧ q.1 ≠ b) := by
  rintro q (h | h | h | h | h | h | h | h | h | h | h)
  · exact Or.inl h
  · exact Or.inr ⟨(Or.inr (Or.inl h)), (by rw [h]; show (z : Nat) ≠ b; omega)⟩
  · exact Or.inr ⟨(Or.inr (Or.inr (Or.inl h))), (by have h9 := pT_in h; omega)⟩
  · exact Or.inr ⟨(Or.inr (Or.inr (Or.inr (Or.inl h)))), (by have h9 := pT_in h; omega)⟩
  · exact Or.inr ⟨(Or.inr (Or.inr (Or.inr (Or.inr (Or.inl h))))), (by have h9 := pT_in h; omega)⟩
  · exact Or.inr ⟨(Or.inr (Or.inr (Or.inr (Or.inr (Or.inr (Or.inl h)))))), (by have h9 := pT_in h; omega)⟩
  · exact Or.inr ⟨(Or.inr (Or.inr (Or.inr (Or.inr (Or.inr (Or.inr (Or.inl h))))))), (by have h9 := pT_in h; omega)⟩
  · exact Or.inr ⟨(Or.inr (Or.inr (Or.inr (Or.inr (Or.inr (Or.inr (Or.inr (Or.inl h)))))))), (by have h9 := pT_in h; omega)⟩
  · exact Or.inr ⟨(Or.inr (Or.inr (Or.inr (Or.inr (Or.inr (Or.inr (Or.inr (Or.inr (Or.inl h))))))))), (by have h9 := pT_in h; omega)⟩
  · exact Or.inr ⟨(Or.inr (Or.inr (Or.inr (Or.inr (Or.inr (Or.inr (Or.inr (Or.inr (Or.inr (Or.inl h)))))))))), (by have h9 := pT_in h; omega)⟩
  · exact Or.inr ⟨(Or.inr (Or.inr (Or.inr (Or.inr (Or.inr (Or.inr (Or.inr (Or.inr (Or.inr (Or.inr h)))))))))), (by have h9 := hT_in h; omega)⟩
def gT (g : mG) (b z : Nat) : Nat × va_E → Prop := fun q => q = (b, .inr (4, [.ref (z), .ref (z + 162), .ref (z + 161), .int (-1 : Int32), .int 0, .int 0, .int 0])) ∨ q = (z, .inl (g.2.2.2.2, 8, .inr (.inr (.inr (.inr (va_up (va_up (va_up (va_up (va_up (va_up (va_up (va_up (fun _ => none) 0 (some (z + 1))) 1 (some (z + 21))) 2 (some (z + 41))) 3 (some (z + 61))) 4 (some (z + 81))) 5 (some (z + 101))) 6 (some (z + 121))) 7 (some (z + 141)))))))) ∨ pT g (z + 1) (z + 2) 8 6 q ∨ pT g (z + 21) (z + 22) 8 6 q ∨ pT g (z + 41) (z + 42) 8 6 q ∨ pT g (z + 61) (z + 62) 8 6 q ∨ pT g (z + 81) (z + 82) 8 6 q ∨ pT g (z + 101) (z + 102) 8 6 q ∨ pT g (z + 121) (z + 122) 8 6 q ∨ pT g (z + 141) (z + 142) 8 6 q ∨ hT g (z + 161) (z + 162) q
theorem gT_in {g : mG} {b z : Nat} {q : Nat × va_E} (h : gT g b z q) : q.1 = b ∨ (z ≤ q.1 ∧ q.1 < z + 348) := by
  rcases h with h | h | h | h | h | h | h | h | h | h | h
  · rw [h]; show (b : Nat) = b ∨ (z ≤ b ∧ b < z + 348); omega
  · rw [h]; show (z : Nat) = b ∨ (z ≤ z ∧ z < z + 348); omega
  · have h9 := pT_in h; omega
  · have h9 := pT_in h; omega
  · have h9 := pT_in h; omega
  · have h9 := pT_in h; omega
  · have h9 := pT_in h; omega
  · have h9 := pT_in h; omega
  · have h9 := pT_in h; omega
  · have h9 := pT_in h; omega
  · have h9 := hT_in h; omega
abbrev rm_X4_init : Room := { frames := 5, cells := 348, slots := 11743, locals := 97 }
set_option maxRecDepth 100000 in
set_option maxHeartbeats 4000000 in
theorem kX4_init {l : Launch} {D : va_G} {g : mG} {b z : Nat} (hbz : b < z) : Met l yX4_init (Cond.code yX4_init cX4_init 2 none :: wsA) rm_X4_init (nPc D g z (fun q => q = (b, .inr (4, [.null, .null, .null, .int 0, .int 0, .int 0, .int 0]))) [.ref b]) (nQc D b z (z + 348) (gT g b z)) 348 11743 (fA b z) := by
  refine n_met (by decide +kernel) rfl (Nat.le_of_ble_eq_true rfl) ?_
  intro p e s m below meth c Y hk2 hin hr hz hw ls hl
  have hx := Y.1
  have hb := Y.2.1
  have hml := Y.2.2.1
  have hown := Y.2.2.2.1
  have hts := Y.2.2.2.2.1
  have hS : va_S (fA b z) s.heap s.heap [] := va_S.rf
  refine lv_aload_n hx hb dX4_init_0 rfl (lv_at hl 0 rfl) ?_
  refine n_obj Y hl.1 mw_9 (Nat.le_of_ble_eq_true rfl) (Nat.le_of_ble_eq_true rfl) (Nat.le_of_ble_eq_true rfl) dX4_init_1 ?_
  refine lv_aload_n hx hb dX4_init_4 rfl (lv_at hl 0 rfl) ?_
  refine lv_bipush (v := (8 : Int32)) hx hb dX4_init_5 (by decide) ?_
  refine n_newq (T' := fun q => q = (b, .inr (4, [.null, .null, .null, .int 0, .int 0, .int 0, .int 0])) ∨ q = (z, .inl (g.2.2.2.2, 8, .inr (.inr (.inr (.inr (fun _ => none))))))) Y hz hw hS mw_12 hk2.2.2 3 rfl (by decide) rfl (by decide) (Nat.le_of_ble_eq_true rfl) (Nat.le_of_ble_eq_true rfl) ?_ dX4_init_7 (fun H hw hz hS => ?_)
  · rintro q (h | h)
    · exact Or.inr h
    · exact Or.inl h
  replace hz : H.size = z + 1 := hz
  refine W.widen (k := 1) (n := 8) (Nat.le_of_ble_eq_true rfl) (Nat.le_of_ble_eq_true rfl) ?_
  refine n_putF (T' := fun q => q = (b, .inr (4, [.ref (z), .null, .null, .int 0, .int 0, .int 0, .int 0])) ∨ q = (z, .inl (g.2.2.2.2, 8, .inr (.inr (.inr (.inr (fun _ => none))))))) Y hin hw hS (Or.inl rfl) (Or.inl rfl) rfl inA_X4 tyX4 tyX4_ok nmX4 0 (by decide) mw_13 rfl rfl rfl rfl (Nat.le_of_ble_eq_true rfl) (oX4_init_1 hbz) dX4_init_10 (fun H locs hw hz2 hS => ?_)
  replace hz := hz2.trans hz
  clear hz2
  refine lv_iconst (v := (0 : Int32)) hx hb dX4_init_13 (by decide) ?_
  refine lv_istore_n (lv' := [(1, .int (0 : Int32)), (0, .ref b)]) hx hb dX4_init_14 rfl hl (by decide) rfl (fun ls hl => ?_)
  refine lv_iload_n hx hb dX4_init_15 rfl (lv_at hl 0 rfl) ?_
  refine lv_bipush (v := (8 : Int32)) hx hb dX4_init_16 (by decide) ?_
  refine lv_icmp_ge (tgt := 44) hx hb dX4_init_18 (by decide) (fun hc => ?_) (fun hc => ?_)
  · exact absurd hc (by decide)
  clear hc
  refine lv_aload_n hx hb dX4_init_21 rfl (lv_at hl 1 rfl) ?_
  refine n_get (v := .ref (z)) Y hw (Or.inl rfl) rfl inA_X4 0 (by decide) mw_13 rfl dX4_init_22 ?_
  refine lv_iload_n hx hb dX4_init_25 rfl (lv_at hl 0 rfl) ?_
  refine n_new (ci := 2) (fs := [.null, .int 0]) (T' := fun q => q = (b, .inr (4, [.ref (z), .null, .null, .int 0, .int 0, .int 0, .int 0])) ∨ q = (z, .inl (g.2.2.2.2, 8, .inr (.inr (.inr (.inr (fun _ => none)))))) ∨ q = (z + 1, .inr (2, [.null, .int 0]))) Y hz hw hS rfl inA_X2 tyX2 tyX2_ok mw_12 mw_14 mw_15 (fun j hj => by rcases (show j = 0 ∨ j = 1 by omega) with rfl | rfl <;> rfl) (Nat.le_of_ble_eq_true rfl) (Nat.le_of_ble_eq_true rfl) ?_ dX4_init_26 (fun H hw hz hS => ?_)
  · rintro q (h | h | h)
    · exact Or.inr (Or.inl h)
    · exact Or.inr (Or.inr h)
    · exact Or.inl h
  replace hz : H.size = z + 2 := hz
  refine W.widen (k := 2) (n := 10) (Nat.le_of_ble_eq_true rfl) (Nat.le_of_ble_eq_true rfl) ?_
  refine lv_dup hx hb dX4_init_29 rfl ?_
  refine lv_bipush (v := (8 : Int32)) hx hb dX4_init_30 (by decide) ?_
  refine lv_bipush (v := (6 : Int32)) hx hb dX4_init_32 (by decide) ?_
  refine n_callI (n := 2) (T' := fun q => q = (b, .inr (4, [.ref (z), .null, .null, .int 0, .int 0, .int 0, .int 0])) ∨ q = (z, .inl (g.2.2.2.2, 8, .inr (.inr (.inr (.inr (fun _ => none)))))) ∨ pT g (z + 1) (z + 2) 8 6 q) (As := [.int (8 : Int32), .int (6 : Int32)]) (rest := [.ref (z + 1), .int (0 : Int32), .ref (z)]) Y hk2 hl.1 hz hw hS (Or.inr (Nat.le_add_right z _)) (fun q hq => Or.inr (Nat.le_trans (Nat.le_add_right z _) hq)) (kX2_init (b := z + 1) (z := z + 2) (t := 8) (r := 6) (Nat.lt_succ_self _) (by decide) (by decide)) (fun q h => (Or.inr (Or.inr h))) mw_22 mw_23 mw_15 mw_24 rfl (by decide +kernel) rfl rfl ⟨Nat.le_of_ble_eq_true rfl, Nat.le_of_ble_eq_true rfl⟩ ⟨Nat.le_of_ble_eq_true rfl, Nat.le_of_ble_eq_true rfl⟩ rfl rfl (Nat.le_of_ble_eq_true rfl) (oX4_init_2 hbz) dX4_init_34 (fun H locs hw hz hS => ?_)
  replace hz : H.size = z + 21 := hz
  refine W.widen (k := 21) (n := 100) (Nat.le_of_ble_eq_true rfl) (Nat.le_of_ble_eq_true rfl) ?_
  refine n_aast (T' := fun q => q = (b, .inr (4, [.ref (z), .null, .null, .int 0, .int 0, .int 0, .int 0])) ∨ q = (z, .inl (g.2.2.2.2, 8, .inr (.inr (.inr (.inr (va_up (fun _ => none) 0 (some (z + 1)))))))) ∨ pT g (z + 1) (z + 2) 8 6 q) (r := (RX2, TX2, 2)) Y hw hS (Or.inr (Nat.le_refl z)) (Or.inr (Or.inl rfl)) 3 rfl (Or.inr (Or.inr (Or.inl rfl))) rfl (by unfold vp_in; decide) (oX4_init_3 hbz) dX4_init_37 (fun H locs hw hz2 hS => ?_)
  replace hz := hz2.trans hz
  clear hz2
  refine lv_iinc (v := (1 : Int32)) (lv' := [(1, .int (1 : Int32)), (0, .ref b)]) hx hb dX4_init_38 hl (k := 0) rfl (by decide) (by decide) rfl (fun ls hl => ?_)
  refine lv_goto (tgt := 15) hx hb dX4_init_41 (by decide) ?_
  refine lv_iload_n hx hb dX4_init_15 rfl (lv_at hl 0 rfl) ?_
  refine lv_bipush (v := (8 : Int32)) hx hb dX4_init_16 (by decide) ?_
  refine lv_icmp_ge (tgt := 44) hx hb dX4_init_18 (by decide) (fun hc => ?_) (fun hc => ?_)
  · exact absurd hc (by decide)
  clear hc
  refine lv_aload_n hx hb dX4_init_21 rfl (lv_at hl 1 rfl) ?_
  refine n_get (v := .ref (z)) Y hw (Or.inl rfl) rfl inA_X4 0 (by decide) mw_13 rfl dX4_init_22 ?_
  refine lv_iload_n hx hb dX4_init_25 rfl (lv_at hl 0 rfl) ?_
  refine n_new (ci := 2) (fs := [.null, .int 0]) (T' := fun q => q = (b, .inr (4, [.ref (z), .null, .null, .int 0, .int 0, .int 0, .int 0])) ∨ q = (z, .inl (g.2.2.2.2, 8, .inr (.inr (.inr (.inr (va_up (fun _ => none) 0 (some (z + 1)))))))) ∨ pT g (z + 1) (z + 2) 8 6 q ∨ q = (z + 21, .inr (2, [.null, .int 0]))) Y hz hw hS rfl inA_X2 tyX2 tyX2_ok mw_12 mw_14 mw_15 (fun j hj => by rcases (show j = 0 ∨ j = 1 by omega) with rfl | rfl <;> rfl) (Nat.le_of_ble_eq_true rfl) (Nat.le_of_ble_eq_true rfl) ?_ dX4_init_26 (fun H hw hz hS => ?_)
  · rintro q (h | h | h | h)
    · exact Or.inr (Or.inl h)
    · exact Or.inr (Or.inr (Or.inl h))
    · exact Or.inr (Or.inr (Or.inr h))
    · exact Or.inl h
  replace hz : H.size = z + 22 := hz
  refine W.widen (k := 22) (n := 102) (Nat.le_of_ble_eq_true rfl) (Nat.le_of_ble_eq_true rfl) ?_
  refine lv_dup hx hb dX4_init_29 rfl ?_
  refine lv_bipush (v := (8 : Int32)) hx hb dX4_init_30 (by decide) ?_
  refine lv_bipush (v := (6 : Int32)) hx hb dX4_init_32 (by decide) ?_
  refine n_callI (n := 2) (T' := fun q => q = (b, .inr (4, [.ref (z), .null, .null, .int 0, .int 0, .int 0, .int 0])) ∨ q = (z, .inl (g.2.2.2.2, 8, .inr (.inr (.inr (.inr (va_up (fun _ => none) 0 (some (z + 1)))))))) ∨ pT g (z + 1) (z + 2) 8 6 q ∨ pT g (z + 21) (z + 22) 8 6 q) (As := [.int (8 : Int32), .int (6 : Int32)]) (rest := [.ref (z + 21), .int (1 : Int32), .ref (z)]) Y hk2 hl.1 hz hw hS (Or.inr (Nat.le_add_right z _)) (fun q hq => Or.inr (Nat.le_trans (Nat.le_add_right z _) hq)) (kX2_init (b := z + 21) (z := z + 22) (t := 8) (r := 6) (Nat.lt_succ_self _) (by decide) (by decide)) (fun q h => (Or.inr (Or.inr (Or.inr h)))) mw_22 mw_23 mw_15 mw_24 rfl (by decide +kernel) rfl rfl ⟨Nat.le_of_ble_eq_true rfl, Nat.le_of_ble_eq_true rfl⟩ ⟨Nat.le_of_ble_eq_true rfl, Nat.le_of_ble_eq_true rfl⟩ rfl rfl (Nat.le_of_ble_eq_true rfl) (oX4_init_4 hbz) dX4_init_34 (fun H locs hw hz hS => ?_)
  replace hz : H.size = z + 41 := hz
  refine W.widen (k := 41) (n := 192) (Nat.le_of_ble_eq_true rfl) (Nat.le_of_ble_eq_true rfl) ?_
  refine n_aast (T' := fun q => q = (b, .inr (4, [.ref (z), .null, .null, .int 0, .int 0, .int 0, .int 0])) ∨ q = (z, .inl (g.2.2.2.2, 8, .inr (.inr (.inr (.inr (va_up (va_up (fun _ => none) 0 (some (z + 1))) 1 (some (z + 21)))))))) ∨ pT g (z + 1) (z + 2) 8 6 q ∨ pT g (z + 21) (z + 22) 8 6 q) (r := (RX2, TX2, 2)) Y hw hS (Or.inr (Nat.le_refl z)) (Or.inr (Or.inl rfl)) 3 rfl (Or.inr (Or.inr (Or.inr (Or.inl rfl)))) rfl (by unfold vp_in; decide) (oX4_init_5 hbz) dX4_init_37 (fun H locs hw hz2 hS => ?_)
  replace hz := hz2.trans hz
  clear hz2
  refine lv_iinc (v := (2 : Int32)) (lv' := [(1, .int (2 : Int32)), (0, .ref b)]) hx hb dX4_init_38 hl (k := 0) rfl (by decide) (by decide) rfl (fun ls hl => ?_)
  refine lv_goto (tgt := 15) hx hb dX4_init_41 (by decide) ?_
  refine lv_iload_n hx hb dX4_init_15 rfl (lv_at hl 0 rfl) ?_
  refine lv_bipush (v := (8 : Int32)) hx hb dX4_init_16 (by decide) ?_
  refine lv_icmp_ge (tgt := 44) hx hb dX4_init_18 (by decide) (fun hc => ?_) (fun hc => ?_)
  · exact absurd hc (by decide)
  clear hc
  refine lv_aload_n hx hb dX4_init_21 rfl (lv_at hl 1 rfl) ?_
  refine n_get (v := .ref (z)) Y hw (Or.inl rfl) rfl inA_X4 0 (by decide) mw_13 rfl dX4_init_22 ?_
  refine lv_iload_n hx hb dX4_init_25 rfl (lv_at hl 0 rfl) ?_
  refine n_new (ci := 2) (fs := [.null, .int 0]) (T' := fun q => q = (b, .inr (4, [.ref (z), .null, .null, .int 0, .int 0, .int 0, .int 0])) ∨ q = (z, .inl (g.2.2.2.2, 8, .inr (.inr (.inr (.inr (va_up (va_up (fun _ => none) 0 (some (z + 1))) 1 (some (z + 21)))))))) ∨ pT g (z + 1) (z + 2) 8 6 q ∨ pT g (z + 21) (z + 22) 8 6 q ∨ q = (z + 41, .inr (2, [.null, .int 0]))) Y hz hw hS rfl inA_X2 tyX2 tyX2_ok mw_12 mw_14 mw_15 (fun j hj => by rcases (show j = 0 ∨ j = 1 by omega) with rfl | rfl <;> rfl) (Nat.le_of_ble_eq_true rfl) (Nat.le_of_ble_eq_true rfl) ?_ dX4_init_26 (fun H hw hz hS => ?_)
  · rintro q (h | h | h | h | h)
    · exact Or.inr (Or.inl h)
    · exact Or.inr (Or.inr (Or.inl h))
    · exact Or.inr (Or.inr (Or.inr (Or.inl h)))
    · exact Or.inr (Or.inr (Or.inr (Or.inr h)))
    · exact Or.inl h
  replace hz : H.size = z + 42 := hz
  refine W.widen (k := 42) (n := 194) (Nat.le_of_ble_eq_true rfl) (Nat.le_of_ble_eq_true rfl) ?_
  refine lv_dup hx hb dX4_init_29 rfl ?_
  refine lv_bipush (v := (8 : Int32)) hx hb dX4_init_30 (by decide) ?_
  refine lv_bipush (v := (6 : Int32)) hx hb dX4_init_32 (by decide) ?_
  refine n_callI (n := 2) (T' := fun q => q = (b, .inr (4, [.ref (z), .null, .null, .int 0, .int 0, .int 0, .int 0])) ∨ q = (z, .inl (g.2.2.2.2, 8, .inr (.inr (.inr (.inr (va_up (va_up (fun _ => none) 0 (some (z + 1))) 1 (some (z + 21)))))))) ∨ pT g (z + 1) (z + 2) 8 6 q ∨ pT g (z + 21) (z + 22) 8 6 q ∨ pT g (z + 41) (z + 42) 8 6 q) (As := [.int (8 : Int32), .int (6 : Int32)]) (rest := [.ref (z + 41), .int (2 : Int32), .ref (z)]) Y hk2 hl.1 hz hw hS (Or.inr (Nat.le_add_right z _)) (fun q hq => Or.inr (Nat.le_trans (Nat.le_add_right z _) hq)) (kX2_init (b := z + 41) (z := z + 42) (t := 8) (r := 6) (Nat.lt_succ_self _) (by decide) (by decide)) (fun q h => (Or.inr (Or.inr (Or.inr (Or.inr h))))) mw_22 mw_23 mw_15 mw_24 rfl (by decide +kernel) rfl rfl ⟨Nat.le_of_ble_eq_true rfl, Nat.le_of_ble_eq_true rfl⟩ ⟨Nat.le_of_ble_eq_true rfl, Nat.le_of_ble_eq_true rfl⟩ rfl rfl (Nat.le_of_ble_eq_true rfl) (oX4_init_6 hbz) dX4_init_34 (fun H locs hw hz hS => ?_)
  replace hz : H.size = z + 61 := hz
  refine W.widen (k := 61) (n := 284) (Nat.le_of_ble_eq_true rfl) (Nat.le_of_ble_eq_true rfl) ?_
  refine n_aast (T' := fun q => q = (b, .inr (4, [.ref (z), .null, .null, .int 0, .int 0, .int 0, .int 0])) ∨ q = (z, .inl (g.2.2.2.2, 8, .inr (.inr (.inr (.inr (va_up (va_up (va_up (fun _ => none) 0 (some (z + 1))) 1 (some (z + 21))) 2 (some (z + 41)))))))) ∨ pT g (z + 1) (z + 2) 8 6 q ∨ pT g (z + 21) (z + 22) 8 6 q ∨ pT g (z + 41) (z + 42) 8 6 q) (r := (RX2, TX2, 2)) Y hw hS (Or.inr (Nat.le_refl z)) (Or.inr (Or.inl rfl)) 3 rfl (Or.inr (Or.inr (Or.inr (Or.inr (Or.inl rfl))))) rfl (by unfold vp_in; decide) (oX4_init_7 hbz) dX4_init_37 (fun H locs hw hz2 hS => ?_)
  replace hz := hz2.trans hz
  clear hz2
  refine lv_iinc (v := (3 : Int32)) (lv' := [(1, .int (3 : Int32)), (0, .ref b)]) hx hb dX4_init_38 hl (k := 0) rfl (by decide) (by decide) rfl (fun ls hl => ?_)
  refine lv_goto (tgt := 15) hx hb dX4_init_41 (by decide) ?_
  refine lv_iload_n hx hb dX4_init_15 rfl (lv_at hl 0 rfl) ?_
  refine lv_bipush (v := (8 : Int32)) hx hb dX4_init_16 (by decide) ?_
  refine lv_icmp_ge (tgt := 44) hx hb dX4_init_18 (by decide) (fun hc => ?_) (fun hc => ?_)
  · exact absurd hc (by decide)
  clear hc
  refine lv_aload_n hx hb dX4_init_21 rfl (lv_at hl 1 rfl) ?_
  refine n_get (v := .ref (z)) Y hw (Or.inl rfl) rfl inA_X4 0 (by decide) mw_13 rfl dX4_init_22 ?_
  refine lv_iload_n hx hb dX4_init_25 rfl (lv_at hl 0 rfl) ?_
  refine n_new (ci := 2) (fs := [.null, .int 0]) (T' := fun q => q = (b, .inr (4, [.ref (z), .null, .null, .int 0, .int 0, .int 0, .int 0])) ∨ q = (z, .inl (g.2.2.2.2, 8, .inr (.inr (.inr (.inr (va_up (va_up (va_up (fun _ => none) 0 (some (z + 1))) 1 (some (z + 21))) 2 (some (z + 41)))))))) ∨ pT g (z + 1) (z + 2) 8 6 q ∨ pT g (z + 21) (z + 22) 8 6 q ∨ pT g (z + 41) (z + 42) 8 6 q ∨ q = (z + 61, .inr (2, [.null, .int 0]))) Y hz hw hS rfl inA_X2 tyX2 tyX2_ok mw_12 mw_14 mw_15 (fun j hj => by rcases (show j = 0 ∨ j = 1 by omega) with rfl | rfl <;> rfl) (Nat.le_of_ble_eq_true rfl) (Nat.le_of_ble_eq_true rfl) ?_ dX4_init_26 (fun H hw hz hS => ?_)
  · rintro q (h | h | h | h | h | h)
    · exact Or.inr (Or.inl h)
    · exact Or.inr (Or.inr (Or.inl h))
    · exact Or.inr (Or.inr (Or.inr (Or.inl h)))
    · exact Or.inr (Or.inr (Or.inr (Or.inr (Or.inl h))))
    · exact Or.inr (Or.inr (Or.inr (Or.inr (Or.inr h))))
    · exact Or.inl h
  replace hz : H.size = z + 62 := hz
  refine W.widen (k := 62) (n := 286) (Nat.le_of_ble_eq_true rfl) (Nat.le_of_ble_eq_true rfl) ?_
  refine lv_dup hx hb dX4_init_29 rfl ?_
  refine lv_bipush (v := (8 : Int32)) hx hb dX4_init_30 (by decide) ?_
  refine lv_bipush (v := (6 : Int32)) hx hb dX4_init_32 (by decide) ?_
  refine n_callI (n := 2) (T' := fun q => q = (b, .inr (4, [.ref (z), .null, .null, .int 0, .int 0, .int 0, .int 0])) ∨ q = (z, .inl (g.2.2.2.2, 8, .inr (.inr (.inr (.inr (va_up (va_up (va_up (fun _ => none) 0 (some (z + 1))) 1 (some (z + 21))) 2 (some (z + 41)))))))) ∨ pT g (z + 1) (z + 2) 8 6 q ∨ pT g (z + 21) (z + 22) 8 6 q ∨ pT g (z + 41) (z + 42) 8 6 q ∨ pT g (z + 61) (z + 62) 8 6 q) (As := [.int (8 : Int32), .int (6 : Int32)]) (rest := [.ref (z + 61), .int (3 : Int32), .ref (z)]) Y hk2 hl.1 hz hw hS (Or.inr (Nat.le_add_right z _)) (fun q hq => Or.inr (Nat.le_trans (Nat.le_add_right z _) hq)) (kX2_init (b := z + 61) (z := z + 62) (t := 8) (r := 6) (Nat.lt_succ_self _) (by decide) (by decide)) (fun q h => (Or.inr (Or.inr (Or.inr (Or.inr (Or.inr h)))))) mw_22 mw_23 mw_15 mw_24 rfl (by decide +kernel) rfl rfl ⟨Nat.le_of_ble_eq_true rfl, Nat.le_of_ble_eq_true rfl⟩ ⟨Nat.le_of_ble_eq_true rfl, Nat.le_of_ble_eq_true rfl⟩ rfl rfl (Nat.le_of_ble_eq_true rfl) (oX4_init_8 hbz) dX4_init_34 (fun H locs hw hz hS => ?_)
  replace hz : H.size = z + 81 := hz
  refine W.widen (k := 81) (n := 376) (Nat.le_of_ble_eq_true rfl) (Nat.le_of_ble_eq_true rfl) ?_
  refine n_aast (T' := fun q => q = (b, .inr (4, [.ref (z), .null, .null, .int 0, .int 0, .int 0, .int 0])) ∨ q = (z, .inl (g.2.2.2.2, 8, .inr (.inr (.inr (.inr (va_up (va_up (va_up (va_up (fun _ => none) 0 (some (z + 1))) 1 (some (z + 21))) 2 (some (z + 41))) 3 (some (z + 61)))))))) ∨ pT g (z + 1) (z + 2) 8 6 q ∨ pT g (z + 21) (z + 22) 8 6 q ∨ pT g (z + 41) (z + 42) 8 6 q ∨ pT g (z + 61) (z + 62) 8 6 q) (r := (RX2, TX2, 2)) Y hw hS (Or.inr (Nat.le_refl z)) (Or.inr (Or.inl rfl)) 3 rfl (Or.inr (Or.inr (Or.inr (Or.inr (Or.inr (Or.inl rfl)))))) rfl (by unfold vp_in; decide) (oX4_init_9 hbz) dX4_init_37 (fun H locs hw hz2 hS => ?_)
  replace hz := hz2.trans hz
  clear hz2
  refine lv_iinc (v := (4 : Int32)) (lv' := [(1, .int (4 : Int32)), (0, .ref b)]) hx hb dX4_init_38 hl (k := 0) rfl (by decide) (by decide) rfl (fun ls hl => ?_)
  refine lv_goto (tgt := 15) hx hb dX4_init_41 (by decide) ?_
  refine lv_iload_n hx hb dX4_init_15 rfl (lv_at hl 0 rfl) ?_
  refine lv_bipush (v := (8 : Int32)) hx hb dX4_init_16 (by decide) ?_
  refine lv_icmp_ge (tgt := 44) hx hb dX4_init_18 (by decide) (fun hc => ?_) (fun hc => ?_)
  · exact absurd hc (by decide)
  clear hc
  refine lv_aload_n hx hb dX4_init_21 rfl (lv_at hl 1 rfl) ?_
  refine n_get (v := .ref (z)) Y hw (Or.inl rfl) rfl inA_X4 0 (by decide) mw_13 rfl dX4_init_22 ?_
  refine lv_iload_n hx hb dX4_init_25 rfl (lv_at hl 0 rfl) ?_
  refine n_new (ci := 2) (fs := [.null, .int 0]) (T' := fun q => q = (b, .inr (4, [.ref (z), .null, .null, .int 0, .int 0, .int 0, .int 0])) ∨ q = (z, .inl (g.2.2.2.2, 8, .inr (.inr (.inr (.inr (va_up (va_up (va_up (va_up (fun _ => none) 0 (some (z + 1))) 1 (some (z + 21))) 2 (some (z + 41))) 3 (some (z + 61)))))))) ∨ pT g (z + 1) (z + 2) 8 6 q ∨ pT g (z + 21) (z + 22) 8 6 q ∨ pT g (z + 41) (z + 42) 8 6 q ∨ pT g (z + 61) (z + 62) 8 6 q ∨ q = (z + 81, .inr (2, [.null, .int 0]))) Y hz hw hS rfl inA_X2 tyX2 tyX2_ok mw_12 mw_14 mw_15 (fun j hj => by rcases (show j = 0 ∨ j = 1 by omega) with rfl | rfl <;> rfl) (Nat.le_of_ble_eq_true rfl) (Nat.le_of_ble_eq_true rfl) ?_ dX4_init_26 (fun H hw hz hS => ?_)
  · rintro q (h | h | h | h | h | h | h)
    · exact Or.inr (Or.inl h)
    · exact Or.inr (Or.inr (Or.inl h))
    · exact Or.inr (Or.inr (Or.inr (Or.inl h)))
    · exact Or.inr (Or.inr (Or.inr (Or.inr (Or.inl h))))
    · exact Or.inr (Or.inr (Or.inr (Or.inr (Or.inr (Or.inl h)))))
    · exact Or.inr (Or.inr (Or.inr (Or.inr (Or.inr (Or.inr h)))))
    · exact Or.inl h
  replace hz : H.size = z + 82 := hz
  refine W.widen (k := 82) (n := 378) (Nat.le_of_ble_eq_true rfl) (Nat.le_of_ble_eq_true rfl) ?_
  refine lv_dup hx hb dX4_init_29 rfl ?_
  refine lv_bipush (v := (8 : Int32)) hx hb dX4_init_30 (by decide) ?_
  refine lv_bipush (v := (6 : Int32)) hx hb dX4_init_32 (by decide) ?_
  refine n_callI (n := 2) (T' := fun q => q = (b, .inr (4, [.ref (z), .null, .null, .int 0, .int 0, .int 0, .int 0])) ∨ q = (z, .inl (g.2.2.2.2, 8, .inr (.inr (.inr (.inr (va_up (va_up (va_up (va_up (fun _ => none) 0 (some (z + 1))) 1 (some (z + 21))) 2 (some (z + 41))) 3 (some (z + 61)))))))) ∨ pT g (z + 1) (z + 2) 8 6 q ∨ pT g (z + 21) (z + 22) 8 6 q ∨ pT g (z + 41) (z + 42) 8 6 q ∨ pT g (z + 61) (z + 62) 8 6 q ∨ pT g (z + 81) (z + 82) 8 6 q) (As := [.int (8 : Int32), .int (6 : Int32)]) (rest := [.ref (z + 81), .int (4 : Int32), .ref (z)]) Y hk2 hl.1 hz hw hS (Or.inr (Nat.le_add_right z _)) (fun q hq => Or.inr (Nat.le_trans (Nat.le_add_right z _) hq)) (kX2_init (b := z + 81) (z := z + 82) (t := 8) (r := 6) (Nat.lt_succ_self _) (by decide) (by decide)) (fun q h => (Or.inr (Or.inr (Or.inr (Or.inr (Or.inr (Or.inr h))))))) mw_22 mw_23 mw_15 mw_24 rfl (by decide +kernel) rfl rfl ⟨Nat.le_of_ble_eq_true rfl, Nat.le_of_ble_eq_true rfl⟩ ⟨Nat.le_of_ble_eq_true rfl, Nat.le_of_ble_eq_true rfl⟩ rfl rfl (Nat.le_of_ble_eq_true rfl) (oX4_init_10 hbz) dX4_init_34 (fun H locs hw hz hS => ?_)
  replace hz : H.size = z + 101 := hz
  refine W.widen (k := 101) (n := 468) (Nat.le_of_ble_eq_true rfl) (Nat.le_of_ble_eq_true rfl) ?_
  refine n_aast (T' := fun q => q = (b, .inr (4, [.ref (z), .null, .null, .int 0, .int 0, .int 0, .int 0])) ∨ q = (z, .inl (g.2.2.2.2, 8, .inr (.inr (.inr (.inr (va_up (va_up (va_up (va_up (va_up (fun _ => none) 0 (some (z + 1))) 1 (some (z + 21))) 2 (some (z + 41))) 3 (some (z + 61))) 4 (some (z + 81)))))))) ∨ pT g (z + 1) (z + 2) 8 6 q ∨ pT g (z + 21) (z + 22) 8 6 q ∨ pT g (z + 41) (z + 42) 8 6 q ∨ pT g (z + 61) (z + 62) 8 6 q ∨ pT g (z + 81) (z + 82) 8 6 q) (r := (RX2, TX2, 2)) Y hw hS (Or.inr (Nat.le_refl z)) (Or.inr (Or.inl rfl)) 3 rfl (Or.inr (Or.inr (Or.inr (Or.inr (Or.inr (Or.inr (Or.inl rfl))))))) rfl (by unfold vp_in; decide) (oX4_init_11 hbz) dX4_init_37 (fun H locs hw hz2 hS => ?_)
  replace hz := hz2.trans hz
  clear hz2
  refine lv_iinc (v := (5 : Int32)) (lv' := [(1, .int (5 : Int32)), (0, .ref b)]) hx hb dX4_init_38 hl (k := 0) rfl (by decide) (by decide) rfl (fun ls hl => ?_)
  refine lv_goto (tgt := 15) hx hb dX4_init_41 (by decide) ?_
  refine lv_iload_n hx hb dX4_init_15 rfl (lv_at hl 0 rfl) ?_
  refine lv_bipush (v := (8 : Int32)) hx hb dX4_init_16 (by decide) ?_
  refine lv_icmp_ge (tgt := 44) hx hb dX4_init_18 (by decide) (fun hc => ?_) (fun hc => ?_)
  · exact absurd hc (by decide)
  clear hc
  refine lv_aload_n hx hb dX4_init_21 rfl (lv_at hl 1 rfl) ?_
  refine n_get (v := .ref (z)) Y hw (Or.inl rfl) rfl inA_X4 0 (by decide) mw_13 rfl dX4_init_22 ?_
  refine lv_iload_n hx hb dX4_init_25 rfl (lv_at hl 0 rfl) ?_
  refine n_new (ci := 2) (fs := [.null, .int 0]) (T' := fun q => q = (b, .inr (4, [.ref (z), .null, .null, .int 0, .int 0, .int 0, .int 0])) ∨ q = (z, .inl (g.2.2.2.2, 8, .inr (.inr (.inr (.inr (va_up (va_up (va_up (va_up (va_up (fun _ => none) 0 (some (z + 1))) 1 (some (z + 21))) 2 (some (z + 41))) 3 (some (z + 61))) 4 (some (z + 81)))))))) ∨ pT g (z + 1) (z + 2) 8 6 q ∨ pT g (z + 21) (z + 22) 8 6 q ∨ pT g (z + 41) (z + 42) 8 6 q ∨ pT g (z + 61) (z + 62) 8 6 q ∨ pT g (z + 81) (z + 82) 8 6 q ∨ q = (z + 101, .inr (2, [.null, .int 0]))) Y hz hw hS rfl inA_X2 tyX2 tyX2_ok mw_12 mw_14 mw_15 (fun j hj => by rcases (show j = 0 ∨ j = 1 by omega) with rfl | rfl <;> rfl) (Nat.le_of_ble_eq_true rfl) (Nat.le_of_ble_eq_true rfl) ?_ dX4_init_26 (fun H hw hz hS => ?_)
  · rintro q (h | h | h | h | h | h | h | h)
    · exact Or.inr (Or.inl h)
    · exact Or.inr (Or.inr (Or.inl h))
    · exact Or.inr (Or.inr (Or.inr (Or.inl h)))
    · exact Or.inr (Or.inr (Or.inr (Or.inr (Or.inl h))))
    · exact Or.inr (Or.inr (Or.inr (Or.inr (Or.inr (Or.inl h)))))
    · exact Or.inr (Or.inr (Or.inr (Or.inr (Or.inr (Or.inr (Or.inl h))))))
    · exact Or.inr (Or.inr (Or.inr (Or.inr (Or.inr (Or.inr (Or.inr h))))))
    · exact Or.inl h
  replace hz : H.size = z + 102 := hz
  refine W.widen (k := 102) (n := 470) (Nat.le_of_ble_eq_true rfl) (Nat.le_of_ble_eq_true rfl) ?_
  refine lv_dup hx hb dX4_init_29 rfl ?_
  refine lv_bipush (v := (8 : Int32)) hx hb dX4_init_30 (by decide) ?_
  refine lv_bipush (v := (6 : Int32)) hx hb dX4_init_32 (by decide) ?_
  refine n_callI (n := 2) (T' := fun q => q = (b, .inr (4, [.ref (z), .null, .null, .int 0, .int 0, .int 0, .int 0])) ∨ q = (z, .inl (g.2.2.2.2, 8, .inr (.inr (.inr (.inr (va_up (va_up (va_up (va_up (va_up (fun _ => none) 0 (some (z + 1))) 1 (some (z + 21))) 2 (some (z + 41))) 3 (some (z + 61))) 4 (some (z + 81)))))))) ∨ pT g (z + 1) (z + 2) 8 6 q ∨ pT g (z + 21) (z + 22) 8 6 q ∨ pT g (z + 41) (z + 42) 8 6 q ∨ pT g (z + 61) (z + 62) 8 6 q ∨ pT g (z + 81) (z + 82) 8 6 q ∨ pT g (z + 101) (z + 102) 8 6 q) (As := [.int (8 : Int32), .int (6 : Int32)]) (rest := [.ref (z + 101), .int (5 : Int32), .ref (z)]) Y hk2 hl.1 hz hw hS (Or.inr (Nat.le_add_right z _)) (fun q hq => Or.inr (Nat.le_trans (Nat.le_add_right z _) hq)) (kX2_init (b := z + 101) (z := z + 102) (t := 8) (r := 6) (Nat.lt_succ_self _) (by decide) (by decide)) (fun q h => (Or.inr (Or.inr (Or.inr (Or.inr (Or.inr (Or.inr (Or.inr h)))))))) mw_22 mw_23 mw_15 mw_24 rfl (by decide +kernel) rfl rfl ⟨Nat.le_of_ble_eq_true rfl, Nat.le_of_ble_eq_true rfl⟩ ⟨Nat.le_of_ble_eq_true rfl, Nat.le_of_ble_eq_true rfl⟩ rfl rfl (Nat.le_of_ble_eq_true rfl) (oX4_init_12 hbz) dX4_init_34 (fun H locs hw hz hS => ?_)
  replace hz : H.size = z + 121 := hz
  refine W.widen (k := 121) (n := 560) (Nat.le_of_ble_eq_true rfl) (Nat.le_of_ble_eq_true rfl) ?_
  refine n_aast (T' := fun q => q = (b, .inr (4, [.ref (z), .null, .null, .int 0, .int 0, .int 0, .int 0])) ∨ q = (z, .inl (g.2.2.2.2, 8, .inr (.inr (.inr (.inr (va_up (va_up (va_up (va_up (va_up (va_up (fun _ => none) 0 (some (z + 1))) 1 (some (z + 21))) 2 (some (z + 41))) 3 (some (z + 61))) 4 (some (z + 81))) 5 (some (z + 101)))))))) ∨ pT g (z + 1) (z + 2) 8 6 q ∨ pT g (z + 21) (z + 22) 8 6 q ∨ pT g (z + 41) (z + 42) 8 6 q ∨ pT g (z + 61) (z + 62) 8 6 q ∨ pT g (z + 81) (z + 82) 8 6 q ∨ pT g (z + 101) (z + 102) 8 6 q) (r := (RX2, TX2, 2)) Y hw hS (Or.inr (Nat.le_refl z)) (Or.inr (Or.inl rfl)) 3 rfl (Or.inr (Or.inr (Or.inr (Or.inr (Or.inr (Or.inr (Or.inr (Or.inl rfl)))))))) rfl (by unfold vp_in; decide) (oX4_init_13 hbz) dX4_init_37 (fun H locs hw hz2 hS => ?_)
  replace hz := hz2.trans hz
  clear hz2
  refine lv_iinc (v := (6 : Int32)) (lv' := [(1, .int (6 : Int32)), (0, .ref b)]) hx hb dX4_init_38 hl (k := 0) rfl (by decide) (by decide) rfl (fun ls hl => ?_)
  refine lv_goto (tgt := 15) hx hb dX4_init_41 (by decide) ?_
  refine lv_iload_n hx hb dX4_init_15 rfl (lv_at hl 0 rfl) ?_
  refine lv_bipush (v := (8 : Int32)) hx hb dX4_init_16 (by decide) ?_
  refine lv_icmp_ge (tgt := 44) hx hb dX4_init_18 (by decide) (fun hc => ?_) (fun hc => ?_)
  · exact absurd hc (by decide)
  clear hc
  refine lv_aload_n hx hb dX4_init_21 rfl (lv_at hl 1 rfl) ?_
  refine n_get (v := .ref (z)) Y hw (Or.inl rfl) rfl inA_X4 0 (by decide) mw_13 rfl dX4_init_22 ?_
  refine lv_iload_n hx hb dX4_init_25 rfl (lv_at hl 0 rfl) ?_
  refine n_new (ci := 2) (fs := [.null, .int 0]) (T' := fun q => q = (b, .inr (4, [.ref (z), .null, .null, .int 0, .int 0, .int 0, .int 0])) ∨ q = (z, .inl (g.2.2.2.2, 8, .inr (.inr (.inr (.inr (va_up (va_up (va_up (va_up (va_up (va_up (fun _ => none) 0 (some (z + 1))) 1 (some (z + 21))) 2 (some (z + 41))) 3 (some (z + 61))) 4 (some (z + 81))) 5 (some (z + 101)))))))) ∨ pT g (z + 1) (z + 2) 8 6 q ∨ pT g (z + 21) (z + 22) 8 6 q ∨ pT g (z + 41) (z + 42) 8 6 q ∨ pT g (z + 61) (z + 62) 8 6 q ∨ pT g (z + 81) (z + 82) 8 6 q ∨ pT g (z + 101) (z + 102) 8 6 q ∨ q = (z + 121, .inr (2, [.null, .int 0]))) Y hz hw hS rfl inA_X2 tyX2 tyX2_ok mw_12 mw_14 mw_15 (fun j hj => by rcases (show j = 0 ∨ j = 1 by omega) with rfl | rfl <;> rfl) (Nat.le_of_ble_eq_true rfl) (Nat.le_of_ble_eq_true rfl) ?_ dX4_init_26 (fun H hw hz hS => ?_)
  · rintro q (h | h | h | h | h | h | h | h | h)
    · exact Or.inr (Or.inl h)
    · exact Or.inr (Or.inr (Or.inl h))
    · exact Or.inr (Or.inr (Or.inr (Or.inl h)))
    · exact Or.inr (Or.inr (Or.inr (Or.inr (Or.inl h))))
    · exact Or.inr (Or.inr (Or.inr (Or.inr (Or.inr (Or.inl h)))))
    · exact Or.inr (Or.inr (Or.inr (Or.inr (Or.inr (Or.inr (Or.inl h))))))
    · exact Or.inr (Or.inr (Or.inr (Or.inr (Or.inr (Or.inr (Or.inr (Or.inl h)))))))
    · exact Or.inr (Or.inr (Or.inr (Or.inr (Or.inr (Or.inr (Or.inr (Or.inr h)))))))
    · exact Or.inl h
  replace hz : H.size = z + 122 := hz
  refine W.widen (k := 122) (n := 562) (Nat.le_of_ble_eq_true rfl) (Nat.le_of_ble_eq_true rfl) ?_
  refine lv_dup hx hb dX4_init_29 rfl ?_
  refine lv_bipush (v := (8 : Int32)) hx hb dX4_init_30 (by decide) ?_
  refine lv_bipush (v := (6 : Int32)) hx hb dX4_init_32 (by decide) ?_
  refine n_callI (n := 2) (T' := fun q => q = (b, .inr (4, [.ref (z), .null, .null, .int 0, .int 0, .int 0, .int 0])) ∨ q = (z, .inl (g.2.2.2.2, 8, .inr (.inr (.inr (.inr (va_up (va_up (va_up (va_up (va_up (va_up (fun _ => none) 0 (some (z + 1))) 1 (some (z + 21))) 2 (some (z + 41))) 3 (some (z + 61))) 4 (some (z + 81))) 5 (some (z + 101)))))))) ∨ pT g (z + 1) (z + 2) 8 6 q ∨ pT g (z + 21) (z + 22) 8 6 q ∨ pT g (z + 41) (z + 42) 8 6 q ∨ pT g (z + 61) (z + 62) 8 6 q ∨ pT g (z + 81) (z + 82) 8 6 q ∨ pT g (z + 101) (z + 102) 8 6 q ∨ pT g (z + 121) (z + 122) 8 6 q) (As := [.int (8 : Int32), .int (6 : Int32)]) (rest := [.ref (z + 121), .int (6 : Int32), .ref (z)]) Y hk2 hl.1 hz hw hS (Or.inr (Nat.le_add_right z _)) (fun q hq => Or.inr (Nat.le_trans (Nat.le_add_right z _) hq)) (kX2_init (b := z + 121) (z := z + 122) (t := 8) (r := 6) (Nat.lt_succ_self _) (by decide) (by decide)) (fun q h => (Or.inr (Or.inr (Or.inr (Or.inr (Or.inr (Or.inr (Or.inr (Or.inr h))))))))) mw_22 mw_23 mw_15 mw_24 rfl (by decide +kernel) rfl rfl ⟨Nat.le_of_ble_eq_true rfl, Nat.le_of_ble_eq_true rfl⟩ ⟨Nat.le_of_ble_eq_true rfl, Nat.le_of_ble_eq_true rfl⟩ rfl rfl (Nat.le_of_ble_eq_true rfl) (oX4_init_14 hbz) dX4_init_34 (fun H locs hw hz hS => ?_)
  replace hz : H.size = z + 141 := hz
  refine W.widen (k := 141) (n := 652) (Nat.le_of_ble_eq_true rfl) (Nat.le_of_ble_eq_true rfl) ?_
  refine n_aast (T' := fun q => q = (b, .inr (4, [.ref (z), .null, .null, .int 0, .int 0, .int 0, .int 0])) ∨ q = (z, .inl (g.2.2.2.2, 8, .inr (.inr (.inr (.inr (va_up (va_up (va_up (va_up (va_up (va_up (va_up (fun _ => none) 0 (some (z + 1))) 1 (some (z + 21))) 2 (some (z + 41))) 3 (some (z + 61))) 4 (some (z + 81))) 5 (some (z + 101))) 6 (some (z + 121)))))))) ∨ pT g (z + 1) (z + 2) 8 6 q ∨ pT g (z + 21) (z + 22) 8 6 q ∨ pT g (z + 41) (z + 42) 8 6 q ∨ pT g (z + 61) (z + 62) 8 6 q ∨ pT g (z + 81) (z + 82) 8 6 q ∨ pT g (z + 101) (z + 102) 8 6 q ∨ pT g (z + 121) (z + 122) 8 6 q) (r := (RX2, TX2, 2)) Y hw hS (Or.inr (Nat.le_refl z)) (Or.inr (Or.inl rfl)) 3 rfl (Or.inr (Or.inr (Or.inr (Or.inr (Or.inr (Or.inr (Or.inr (Or.inr (Or.inl rfl))))))))) rfl (by unfold vp_in; decide) (oX4_init_15 hbz) dX4_init_37 (fun H locs hw hz2 hS => ?_)
  replace hz := hz2.trans hz
  clear hz2
  refine lv_iinc (v := (7 : Int32)) (lv' := [(1, .int (7 : Int32)), (0, .ref b)]) hx hb dX4_init_38 hl (k := 0) rfl (by decide) (by decide) rfl (fun ls hl => ?_)
  refine lv_goto (tgt := 15) hx hb dX4_init_41 (by decide) ?_
  refine lv_iload_n hx hb dX4_init_15 rfl (lv_at hl 0 rfl) ?_
  refine lv_bipush (v := (8 : Int32)) hx hb dX4_init_16 (by decide) ?_
  refine lv_icmp_ge (tgt := 44) hx hb dX4_init_18 (by decide) (fun hc => ?_) (fun hc => ?_)
  · exact absurd hc (by decide)
  clear hc
  refine lv_aload_n hx hb dX4_init_21 rfl (lv_at hl 1 rfl) ?_
  refine n_get (v := .ref (z)) Y hw (Or.inl rfl) rfl inA_X4 0 (by decide) mw_13 rfl dX4_init_22 ?_
  refine lv_iload_n hx hb dX4_init_25 rfl (lv_at hl 0 rfl) ?_
  refine n_new (ci := 2) (fs := [.null, .int 0]) (T' := fun q => q = (b, .inr (4, [.ref (z), .null, .null, .int 0, .int 0, .int 0, .int 0])) ∨ q = (z, .inl (g.2.2.2.2, 8, .inr (.inr (.inr (.inr (va_up (va_up (va_up (va_up (va_up (va_up (va_up (fun _ => none) 0 (some (z + 1))) 1 (some (z + 21))) 2 (some (z + 41))) 3 (some (z + 61))) 4 (some (z + 81))) 5 (some (z + 101))) 6 (some (z + 121)))))))) ∨ pT g (z + 1) (z + 2) 8 6 q ∨ pT g (z + 21) (z + 22) 8 6 q ∨ pT g (z + 41) (z + 42) 8 6 q ∨ pT g (z + 61) (z + 62) 8 6 q ∨ pT g (z + 81) (z + 82) 8 6 q ∨ pT g (z + 101) (z + 102) 8 6 q ∨ pT g (z + 121) (z + 122) 8 6 q ∨ q = (z + 141, .inr (2, [.null, .int 0]))) Y hz hw hS rfl inA_X2 tyX2 tyX2_ok mw_12 mw_14 mw_15 (fun j hj => by rcases (show j = 0 ∨ j = 1 by omega) with rfl | rfl <;> rfl) (Nat.le_of_ble_eq_true rfl) (Nat.le_of_ble_eq_true rfl) ?_ dX4_init_26 (fun H hw hz hS => ?_)
  · rintro q (h | h | h | h | h | h | h | h | h | h)
    · exact Or.inr (Or.inl h)
    · exact Or.inr (Or.inr (Or.inl h))
    · exact Or.inr (Or.inr (Or.inr (Or.inl h)))
    · exact Or.inr (Or.inr (Or.inr (Or.inr (Or.inl h))))
    · exact Or.inr (Or.inr (Or.inr (Or.inr (Or.inr (Or.inl h)))))
    · exact Or.inr (Or.inr (Or.inr (Or.inr (Or.inr (Or.inr (Or.inl h))))))
    · exact Or.inr (Or.inr (Or.inr (Or.inr (Or.inr (Or.inr (Or.inr (Or.inl h)))))))
    · exact Or.inr (Or.inr (Or.inr (Or.inr (Or.inr (Or.inr (Or.inr (Or.inr (Or.inl h))))))))
    · exact Or.inr (Or.inr (Or.inr (Or.inr (Or.inr (Or.inr (Or.inr (Or.inr (Or.inr h))))))))
    · exact Or.inl h
  replace hz : H.size = z + 142 := hz
  refine W.widen (k := 142) (n := 654) (Nat.le_of_ble_eq_true rfl) (Nat.le_of_ble_eq_true rfl) ?_
  refine lv_dup hx hb dX4_init_29 rfl ?_
  refine lv_bipush (v := (8 : Int32)) hx hb dX4_init_30 (by decide) ?_
  refine lv_bipush (v := (6 : Int32)) hx hb dX4_init_32 (by decide) ?_
  refine n_callI (n := 2) (T' := fun q => q = (b, .inr (4, [.ref (z), .null, .null, .int 0, .int 0, .int 0, .int 0])) ∨ q = (z, .inl (g.2.2.2.2, 8, .inr (.inr (.inr (.inr (va_up (va_up (va_up (va_up (va_up (va_up (va_up (fun _ => none) 0 (some (z + 1))) 1 (some (z + 21))) 2 (some (z + 41))) 3 (some (z + 61))) 4 (some (z + 81))) 5 (some (z + 101))) 6 (some (z + 121)))))))) ∨ pT g (z + 1) (z + 2) 8 6 q ∨ pT g (z + 21) (z + 22) 8 6 q ∨ pT g (z + 41) (z + 42) 8 6 q ∨ pT g (z + 61) (z + 62) 8 6 q ∨ pT g (z + 81) (z + 82) 8 6 q ∨ pT g (z + 101) (z + 102) 8 6 q ∨ pT g (z + 121) (z + 122) 8 6 q ∨ pT g (z + 141) (z + 142) 8 6 q) (As := [.int (8 : Int32), .int (6 : Int32)]) (rest := [.ref (z + 141), .int (7 : Int32), .ref (z)]) Y hk2 hl.1 hz hw hS (Or.inr (Nat.le_add_right z _)) (fun q hq => Or.inr (Nat.le_trans (Nat.le_add_right z _) hq)) (kX2_init (b := z + 141) (z := z + 142) (t := 8) (r := 6) (Nat.lt_succ_self _) (by decide) (by decide)) (fun q h => (Or.inr (Or.inr (Or.inr (Or.inr (Or.inr (Or.inr (Or.inr (Or.inr (Or.inr h)))))))))) mw_22 mw_23 mw_15 mw_24 rfl (by decide +kernel) rfl rfl ⟨Nat.le_of_ble_eq_true rfl, Nat.le_of_ble_eq_true rfl⟩ ⟨Nat.le_of_ble_eq_true rfl, Nat.le_of_ble_eq_true rfl⟩ rfl rfl (Nat.le_of_ble_eq_true rfl) (oX4_init_16 hbz) dX4_init_34 (fun H locs hw hz hS => ?_)
  replace hz : H.size = z + 161 := hz
  refine W.widen (k := 161) (n := 744) (Nat.le_of_ble_eq_true rfl) (Nat.le_of_ble_eq_true rfl) ?_
  refine n_aast (T' := fun q => q = (b, .inr (4, [.ref (z), .null, .null, .int 0, .int 0, .int 0, .int 0])) ∨ q = (z, .inl (g.2.2.2.2, 8, .inr (.inr (.inr (.inr (va_up (va_up (va_up (va_up (va_up (va_up (va_up (va_up (fun _ => none) 0 (some (z + 1))) 1 (some (z + 21))) 2 (some (z + 41))) 3 (some (z + 61))) 4 (some (z + 81))) 5 (some (z + 101))) 6 (some (z + 121))) 7 (some (z + 141)))))))) ∨ pT g (z + 1) (z + 2) 8 6 q ∨ pT g (z + 21) (z + 22) 8 6 q ∨ pT g (z + 41) (z + 42) 8 6 q ∨ pT g (z + 61) (z + 62) 8 6 q ∨ pT g (z + 81) (z + 82) 8 6 q ∨ pT g (z + 101) (z + 102) 8 6 q ∨ pT g (z + 121) (z + 122) 8 6 q ∨ pT g (z + 141) (z + 142) 8 6 q) (r := (RX2, TX2, 2)) Y hw hS (Or.inr (Nat.le_refl z)) (Or.inr (Or.inl rfl)) 3 rfl (Or.inr (Or.inr (Or.inr (Or.inr (Or.inr (Or.inr (Or.inr (Or.inr (Or.inr (Or.inl rfl)))))))))) rfl (by unfold vp_in; decide) (oX4_init_17 hbz) dX4_init_37 (fun H locs hw hz2 hS => ?_)
  replace hz := hz2.trans hz
  clear hz2
  refine lv_iinc (v := (8 : Int32)) (lv' := [(1, .int (8 : Int32)), (0, .ref b)]) hx hb dX4_init_38 hl (k := 0) rfl (by decide) (by decide) rfl (fun ls hl => ?_)
  refine lv_goto (tgt := 15) hx hb dX4_init_41 (by decide) ?_
  refine lv_iload_n hx hb dX4_init_15 rfl (lv_at hl 0 rfl) ?_
  refine lv_bipush (v := (8 : Int32)) hx hb dX4_init_16 (by decide) ?_
  refine lv_icmp_ge (tgt := 44) hx hb dX4_init_18 (by decide) (fun hc => ?_) (fun hc => ?_)
  rotate_left
  · exact absurd (by decide) hc
  clear hc
  refine lv_aload_n hx hb dX4_init_44 rfl (lv_at hl 1 rfl) ?_
  refine n_new (ci := 1) (fs := [.null, .null, .null, .null, .null, .null, .int 0]) (T' := fun q => q = (b, .inr (4, [.ref (z), .null, .null, .int 0, .int 0, .int 0, .int 0])) ∨ q = (z, .inl (g.2.2.2.2, 8, .inr (.inr (.inr (.inr (va_up (va_up (va_up (va_up (va_up (va_up (va_up (va_up (fun _ => none) 0 (some (z + 1))) 1 (some (z + 21))) 2 (some (z + 41))) 3 (some (z + 61))) 4 (some (z + 81))) 5 (some (z + 101))) 6 (some (z + 121))) 7 (some (z + 141)))))))) ∨ pT g (z + 1) (z + 2) 8 6 q ∨ pT g (z + 21) (z + 22) 8 6 q ∨ pT g (z + 41) (z + 42) 8 6 q ∨ pT g (z + 61) (z + 62) 8 6 q ∨ pT g (z + 81) (z + 82) 8 6 q ∨ pT g (z + 101) (z + 102) 8 6 q ∨ pT g (z + 121) (z + 122) 8 6 q ∨ pT g (z + 141) (z + 142) 8 6 q ∨ q = (z + 161, .inr (1, [.null, .null, .null, .null, .null, .null, .int 0]))) Y hz hw hS rfl inA_X1 tyX1 tyX1_ok mw_16 mw_17 mw_18 (fun j hj => by rcases (show j = 0 ∨ j = 1 ∨ j = 2 ∨ j = 3 ∨ j = 4 ∨ j = 5 ∨ j = 6 by omega) with rfl | rfl | rfl | rfl | rfl | rfl | rfl <;> rfl) (Nat.le_of_ble_eq_true rfl) (Nat.le_of_ble_eq_true rfl) ?_ dX4_init_45 (fun H hw hz hS => ?_)
  · rintro q (h | h | h | h | h | h | h | h | h | h | h)
    · exact Or.inr (Or.inl h)
    · exact Or.inr (Or.inr (Or.inl h))
    · exact Or.inr (Or.inr (Or.inr (Or.inl h)))
    · exact Or.inr (Or.inr (Or.inr (Or.inr (Or.inl h))))
    · exact Or.inr (Or.inr (Or.inr (Or.inr (Or.inr (Or.inl h)))))
    · exact Or.inr (Or.inr (Or.inr (Or.inr (Or.inr (Or.inr (Or.inl h))))))
    · exact Or.inr (Or.inr (Or.inr (Or.inr (Or.inr (Or.inr (Or.inr (Or.inl h)))))))
    · exact Or.inr (Or.inr (Or.inr (Or.inr (Or.inr (Or.inr (Or.inr (Or.inr (Or.inl h))))))))
    · exact Or.inr (Or.inr (Or.inr (Or.inr (Or.inr (Or.inr (Or.inr (Or.inr (Or.inr (Or.inl h)))))))))
    · exact Or.inr (Or.inr (Or.inr (Or.inr (Or.inr (Or.inr (Or.inr (Or.inr (Or.inr (Or.inr h)))))))))
    · exact Or.inl h
  replace hz : H.size = z + 162 := hz
  refine W.widen (k := 162) (n := 751) (Nat.le_of_ble_eq_true rfl) (Nat.le_of_ble_eq_true rfl) ?_
  refine lv_dup hx hb dX4_init_48 rfl ?_
  refine n_callI (n := 0) (T' := fun q => q = (b, .inr (4, [.ref (z), .null, .null, .int 0, .int 0, .int 0, .int 0])) ∨ q = (z, .inl (g.2.2.2.2, 8, .inr (.inr (.inr (.inr (va_up (va_up (va_up (va_up (va_up (va_up (va_up (va_up (fun _ => none) 0 (some (z + 1))) 1 (some (z + 21))) 2 (some (z + 41))) 3 (some (z + 61))) 4 (some (z + 81))) 5 (some (z + 101))) 6 (some (z + 121))) 7 (some (z + 141)))))))) ∨ pT g (z + 1) (z + 2) 8 6 q ∨ pT g (z + 21) (z + 22) 8 6 q ∨ pT g (z + 41) (z + 42) 8 6 q ∨ pT g (z + 61) (z + 62) 8 6 q ∨ pT g (z + 81) (z + 82) 8 6 q ∨ pT g (z + 101) (z + 102) 8 6 q ∨ pT g (z + 121) (z + 122) 8 6 q ∨ pT g (z + 141) (z + 142) 8 6 q ∨ hT g (z + 161) (z + 162) q) (As := []) (rest := [.ref (z + 161), .ref b]) Y hk2 hl.1 hz hw hS (Or.inr (Nat.le_add_right z _)) (fun q hq => Or.inr (Nat.le_trans (Nat.le_add_right z _) hq)) (kX1_init (b := z + 161) (z := z + 162) (Nat.lt_succ_self _)) (fun q h => (Or.inr (Or.inr (Or.inr (Or.inr (Or.inr (Or.inr (Or.inr (Or.inr (Or.inr (Or.inr h))))))))))) mw_37 mw_38 mw_18 mw_39 rfl (by decide +kernel) rfl rfl ⟨Nat.le_of_ble_eq_true rfl, Nat.le_of_ble_eq_true rfl⟩ ⟨Nat.le_of_ble_eq_true rfl, Nat.le_of_ble_eq_true rfl⟩ rfl rfl (Nat.le_of_ble_eq_true rfl) (oX4_init_18 hbz) dX4_init_49 (fun H locs hw hz hS => ?_)
  replace hz : H.size = z + 348 := hz
  refine W.widen (k := 348) (n := 11743) (Nat.le_of_ble_eq_true rfl) (Nat.le_of_ble_eq_true rfl) ?_
  refine n_putF (T' := fun q => q = (b, .inr (4, [.ref (z), .null, .ref (z + 161), .int 0, .int 0, .int 0, .int 0])) ∨ q = (z, .inl (g.2.2.2.2, 8, .inr (.inr (.inr (.inr (va_up (va_up (va_up (va_up (va_up (va_up (va_up (va_up (fun _ => none) 0 (some (z + 1))) 1 (some (z + 21))) 2 (some (z + 41))) 3 (some (z + 61))) 4 (some (z + 81))) 5 (some (z + 101))) 6 (some (z + 121))) 7 (some (z + 141)))))))) ∨ pT g (z + 1) (z + 2) 8 6 q ∨ pT g (z + 21) (z + 22) 8 6 q ∨ pT g (z + 41) (z + 42) 8 6 q ∨ pT g (z + 61) (z + 62) 8 6 q ∨ pT g (z + 81) (z + 82) 8 6 q ∨ pT g (z + 101) (z + 102) 8 6 q ∨ pT g (z + 121) (z + 122) 8 6 q ∨ pT g (z + 141) (z + 142) 8 6 q ∨ hT g (z + 161) (z + 162) q) Y hin hw hS (Or.inl rfl) (Or.inl rfl) rfl inA_X4 tyX4 tyX4_ok nmX4 2 (by decide) mw_19 rfl rfl rfl rfl (Nat.le_of_ble_eq_true rfl) (oX4_init_19 hbz) dX4_init_52 (fun H locs hw hz2 hS => ?_)
  replace hz := hz2.trans hz
  clear hz2
  refine lv_aload_n hx hb dX4_init_55 rfl (lv_at hl 1 rfl) ?_
  refine lv_aload_n hx hb dX4_init_56 rfl (lv_at hl 1 rfl) ?_
  refine n_get (v := .ref (z + 161)) Y hw (Or.inl rfl) rfl inA_X4 2 (by decide) mw_19 rfl dX4_init_57 ?_
  refine n_getN (v := .ref (z + 162)) Y hw (Or.inr (Or.inr (Or.inr (Or.inr (Or.inr (Or.inr (Or.inr (Or.inr (Or.inr (Or.inr (Or.inl rfl))))))))))) rfl inA_X1 0 (by decide) (List.mem_append_left _ (List.mem_map.mpr ⟨_, List.mem_of_getElem? (i := 4) rfl, rfl⟩)) rfl dX4_init_60 ?_
  refine n_putF (T' := fun q => q = (b, .inr (4, [.ref (z), .ref (z + 162), .ref (z + 161), .int 0, .int 0, .int 0, .int 0])) ∨ q = (z, .inl (g.2.2.2.2, 8, .inr (.inr (.inr (.inr (va_up (va_up (va_up (va_up (va_up (va_up (va_up (va_up (fun _ => none) 0 (some (z + 1))) 1 (some (z + 21))) 2 (some (z + 41))) 3 (some (z + 61))) 4 (some (z + 81))) 5 (some (z + 101))) 6 (some (z + 121))) 7 (some (z + 141)))))))) ∨ pT g (z + 1) (z + 2) 8 6 q ∨ pT g (z + 21) (z + 22) 8 6 q ∨ pT g (z + 41) (z + 42) 8 6 q ∨ pT g (z + 61) (z + 62) 8 6 q ∨ pT g (z + 81) (z + 82) 8 6 q ∨ pT g (z + 101) (z + 102) 8 6 q ∨ pT g (z + 121) (z + 122) 8 6 q ∨ pT g (z + 141) (z + 142) 8 6 q ∨ hT g (z + 161) (z + 162) q) Y hin hw hS (Or.inl rfl) (Or.inl rfl) rfl inA_X4 tyX4 tyX4_ok nmX4 1 (by decide) mw_20 rfl rfl rfl rfl (Nat.le_of_ble_eq_true rfl) (oX4_init_20 hbz) dX4_init_63 (fun H locs hw hz2 hS => ?_)
  replace hz := hz2.trans hz
  clear hz2
  refine lv_aload_n hx hb dX4_init_66 rfl (lv_at hl 1 rfl) ?_
  refine lv_iconst (v := (-1 : Int32)) hx hb dX4_init_67 (by decide) ?_
  refine n_put (T' := fun q => q = (b, .inr (4, [.ref (z), .ref (z + 162), .ref (z + 161), .int (-1 : Int32), .int 0, .int 0, .int 0])) ∨ q = (z, .inl (g.2.2.2.2, 8, .inr (.inr (.inr (.inr (va_up (va_up (va_up (va_up (va_up (va_up (va_up (va_up (fun _ => none) 0 (some (z + 1))) 1 (some (z + 21))) 2 (some (z + 41))) 3 (some (z + 61))) 4 (some (z + 81))) 5 (some (z + 101))) 6 (some (z + 121))) 7 (some (z + 141)))))))) ∨ pT g (z + 1) (z + 2) 8 6 q ∨ pT g (z + 21) (z + 22) 8 6 q ∨ pT g (z + 41) (z + 42) 8 6 q ∨ pT g (z + 61) (z + 62) 8 6 q ∨ pT g (z + 81) (z + 82) 8 6 q ∨ pT g (z + 101) (z + 102) 8 6 q ∨ pT g (z + 121) (z + 122) 8 6 q ∨ pT g (z + 141) (z + 142) 8 6 q ∨ hT g (z + 161) (z + 162) q) Y hw hS (Or.inl rfl) (Or.inl rfl) rfl inA_X4 tyX4 tyX4_ok nmX4 3 (by decide) mw_21 rfl rfl rfl (Nat.le_of_ble_eq_true rfl) (oX4_init_21 hbz) dX4_init_68 (fun H locs hw hz2 hS => ?_)
  replace hz := hz2.trans hz
  clear hz2
  refine W.widen (k := 348) (n := 11743) (Nat.le_of_ble_eq_true rfl) (Nat.le_of_ble_eq_true rfl) ?_
  exact n_vret Y hr hw hz hS dX4_init_71
theorem oX5_init_1 {g : mG} {b z : Nat} (hbz : b < z) : ∀ q : Nat × va_E, (fun q => q = (b, .inr (5, [.ref (z), .null, .null, .null, .int 0, .int 0, .int 0, .int 0, .null, .int 0])) ∨ q = (z, .inl (g.2.2.1, 99880, .inr (.inl (fun _ => 0))))) q → q = (b, .inr (5, [.ref (z), .null, .null, .null, .int 0, .int 0, .int 0, .int 0, .null, .int 0])) ∨ ((fun q => q = (b, .inr (5, [.null, .null, .null, .null, .int 0, .int 0, .int 0, .int 0, .null, .int 0])) ∨ q = (z, .inl (g.2.2.1, 99880, .inr (.inl (fun _ => 0))))) q ∧ q.1 ≠ b) := by
  rintro q (h | h)
  · exact Or.inl h
  · exact Or.inr ⟨(Or.inr h), (by rw [h]; show (z : Nat) ≠ b; omega)⟩
theorem oX5_init_2 {g : mG} {b z : Nat} (hbz : b < z) : ∀ q : Nat × va_E, (fun q => q = (b, .inr (5, [.ref (z), .ref (z + 1), .null, .null, .int 0, .int 0, .int 0, .int 0, .null, .int 0])) ∨ q = (z, .inl (g.2.2.1, 99880, .inr (.inl (fun _ => 0)))) ∨ q = (z + 1, .inl (g.2.1, 227, .inl (fun _ => 0)))) q → q = (b, .inr (5, [.ref (z), .ref (z + 1), .null, .null, .int 0, .int 0, .int 0, .int 0, .null, .int 0])) ∨ ((fun q => q = (b, .inr (5, [.ref (z), .null, .null, .null, .int 0, .int 0, .int 0, .int 0, .null, .int 0])) ∨ q = (z, .inl (g.2.2.1, 99880, .inr (.inl (fun _ => 0)))) ∨ q = (z + 1, .inl (g.2.1, 227, .inl (fun _ => 0)))) q ∧ q.1 ≠ b) := by
  rintro q (h | h | h)
  · exact Or.inl h
  · exact Or.inr ⟨(Or.inr (Or.inl h)), (by rw [h]; show (z : Nat) ≠ b; omega)⟩
  · exact Or.inr ⟨(Or.inr (Or.inr h)), (by rw [h]; show (z + 1 : Nat) ≠ b; omega)⟩
theorem oX5_init_3 {g : mG} {b z : Nat} (hbz : b < z) : ∀ q : Nat × va_E, (fun q => q = (b, .inr (5, [.ref (z), .ref (z + 1), .ref (z + 2), .null, .int 0, .int 0, .int 0, .int 0, .null, .int 0])) ∨ q = (z, .inl (g.2.2.1, 99880, .inr (.inl (fun _ => 0)))) ∨ q = (z + 1, .inl (g.2.1, 227, .inl (fun _ => 0))) ∨ q = (z + 2, .inl (g.2.1, 227, .inl (fun _ => 0)))) q → q = (b, .inr (5, [.ref (z), .ref (z + 1), .ref (z + 2), .null, .int 0, .int 0, .int 0, .int 0, .null, .int 0])) ∨ ((fun q => q = (b, .inr (5, [.ref (z), .ref (z + 1), .null, .null, .int 0, .int 0, .int 0, .int 0, .null, .int 0])) ∨ q = (z, .inl (g.2.2.1, 99880, .inr (.inl (fun _ => 0)))) ∨ q = (z + 1, .inl (g.2.1, 227, .inl (fun _ => 0))) ∨ q = (z + 2, .inl (g.2.1, 227, .inl (fun _ => 0)))) q ∧ q.1 ≠ b) := by
  rintro q (h | h | h | h)
  · exact Or.inl h
  · exact Or.inr ⟨(Or.inr (Or.inl h)), (by rw [h]; show (z : Nat) ≠ b; omega)⟩
  · exact Or.inr ⟨(Or.inr (Or.inr (Or.inl h))), (by rw [h]; show (z + 1 : Nat) ≠ b; omega)⟩
  · exact Or.inr ⟨(Or.inr (Or.inr (Or.inr h))), (by rw [h]; show (z + 2 : Nat) ≠ b; omega)⟩
theorem oX5_init_4 {g : mG} {b z : Nat} (hbz : b < z) : ∀ q : Nat × va_E, (fun q => q = (b, .inr (5, [.ref (z), .ref (z + 1), .ref (z + 2), .ref (z + 3), .int 0, .int 0, .int 0, .int 0, .null, .int 0])) ∨ q = (z, .inl (g.2.2.1, 99880, .inr (.inl (fun _ => 0)))) ∨ q = (z + 1, .inl (g.2.1, 227, .inl (fun _ => 0))) ∨ q = (z + 2, .inl (g.2.1, 227, .inl (fun _ => 0))) ∨ q = (z + 3, .inl (g.2.1, 24, .inl (fun _ => 0)))) q → q = (b, .inr (5, [.ref (z), .ref (z + 1), .ref (z + 2), .ref (z + 3), .int 0, .int 0, .int 0, .int 0, .null, .int 0])) ∨ ((fun q => q = (b, .inr (5, [.ref (z), .ref (z + 1), .ref (z + 2), .null, .int 0, .int 0, .int 0, .int 0, .null, .int 0])) ∨ q = (z, .inl (g.2.2.1, 99880, .inr (.inl (fun _ => 0)))) ∨ q = (z + 1, .inl (g.2.1, 227, .inl (fun _ => 0))) ∨ q = (z + 2, .inl (g.2.1, 227, .inl (fun _ => 0))) ∨ q = (z + 3, .inl (g.2.1, 24, .inl (fun _ => 0)))) q ∧ q.1 ≠ b) := by
  rintro q (h | h | h | h | h)
  · exact Or.inl h
  · exact Or.inr ⟨(Or.inr (Or.inl h)), (by rw [h]; show (z : Nat) ≠ b; omega)⟩
  · exact Or.inr ⟨(Or.inr (Or.inr (Or.inl h))), (by rw [h]; show (z + 1 : Nat) ≠ b; omega)⟩
  · exact Or.inr ⟨(Or.inr (Or.inr (Or.inr (Or.inl h)))), (by rw [h]; show (z + 2 : Nat) ≠ b; omega)⟩
  · exact Or.inr ⟨(Or.inr (Or.inr (Or.inr (Or.inr h)))), (by rw [h]; show (z + 3 : Nat) ≠ b; omega)⟩
theorem oX5_init_5 {g : mG} {b z : Nat} (hbz : b < z) : ∀ q : Nat × va_E, (fun q => q = (b, .inr (5, [.ref (z), .ref (z + 1), .ref (z + 2), .ref (z + 3), .int (-1 : Int32), .int 0, .int 0, .int 0, .null, .int 0])) ∨ q = (z, .inl (g.2.2.1, 99880, .inr (.inl (fun _ => 0)))) ∨ q = (z + 1, .inl (g.2.1, 227, .inl (fun _ => 0))) ∨ q = (z + 2, .inl (g.2.1, 227, .inl (fun _ => 0))) ∨ q = (z + 3, .inl (g.2.1, 24, .inl (fun _ => 0)))) q → q = (b, .inr (5, [.ref (z), .ref (z + 1), .ref (z + 2), .ref (z + 3), .int (-1 : Int32), .int 0, .int 0, .int 0, .null, .int 0])) ∨ ((fun q => q = (b, .inr (5, [.ref (z), .ref (z + 1), .ref (z + 2), .ref (z + 3), .int 0, .int 0, .int 0, .int 0, .null, .int 0])) ∨ q = (z, .inl (g.2.2.1, 99880, .inr (.inl (fun _ => 0)))) ∨ q = (z + 1, .inl (g.2.1, 227, .inl (fun _ => 0))) ∨ q = (z + 2, .inl (g.2.1, 227, .inl (fun _ => 0))) ∨ q = (z + 3, .inl (g.2.1, 24, .inl (fun _ => 0)))) q ∧ q.1 ≠ b) := by
  rintro q (h | h | h | h | h)
  · exact Or.inl h
  · exact Or.inr ⟨(Or.inr (Or.inl h)), (by rw [h]; show (z : Nat) ≠ b; omega)⟩
  · exact Or.inr ⟨(Or.inr (Or.inr (Or.inl h))), (by rw [h]; show (z + 1 : Nat) ≠ b; omega)⟩
  · exact Or.inr ⟨(Or.inr (Or.inr (Or.inr (Or.inl h)))), (by rw [h]; show (z + 2 : Nat) ≠ b; omega)⟩
  · exact Or.inr ⟨(Or.inr (Or.inr (Or.inr (Or.inr h)))), (by rw [h]; show (z + 3 : Nat) ≠ b; omega)⟩
theorem oX5_init_6 {g : mG} {b z : Nat} (hbz : b < z) : ∀ q : Nat × va_E, (fun q => q = (b, .inr (5, [.ref (z), .ref (z + 1), .ref (z + 2), .ref (z + 3), .int (-1 : Int32), .int 0, .int 0, .int 0, .ref (z + 4), .int 0])) ∨ q = (z, .inl (g.2.2.1, 99880, .inr (.inl (fun _ => 0)))) ∨ q = (z + 1, .inl (g.2.1, 227, .inl (fun _ => 0))) ∨ q = (z + 2, .inl (g.2.1, 227, .inl (fun _ => 0))) ∨ q = (z + 3, .inl (g.2.1, 24, .inl (fun _ => 0))) ∨ q = (z + 4, .inl (g.2.1, 6, .inl (fun _ => 0)))) q → q = (b, .inr (5, [.ref (z), .ref (z + 1), .ref (z + 2), .ref (z + 3), .int (-1 : Int32), .int 0, .int 0, .int 0, .ref (z + 4), .int 0])) ∨ ((fun q => q = (b, .inr (5, [.ref (z), .ref (z + 1), .ref (z + 2), .ref (z + 3), .int (-1 : Int32), .int 0, .int 0, .int 0, .null, .int 0])) ∨ q = (z, .inl (g.2.2.1, 99880, .inr (.inl (fun _ => 0)))) ∨ q = (z + 1, .inl (g.2.1, 227, .inl (fun _ => 0))) ∨ q = (z + 2, .inl (g.2.1, 227, .inl (fun _ => 0))) ∨ q = (z + 3, .inl (g.2.1, 24, .inl (fun _ => 0))) ∨ q = (z + 4, .inl (g.2.1, 6, .inl (fun _ => 0)))) q ∧ q.1 ≠ b) := by
  rintro q (h | h | h | h | h | h)
  · exact Or.inl h
  · exact Or.inr ⟨(Or.inr (Or.inl h)), (by rw [h]; show (z : Nat) ≠ b; omega)⟩
  · exact Or.inr ⟨(Or.inr (Or.inr (Or.inl h))), (by rw [h]; show (z + 1 : Nat) ≠ b; omega)⟩
  · exact Or.inr ⟨(Or.inr (Or.inr (Or.inr (Or.inl h)))), (by rw [h]; show (z + 2 : Nat) ≠ b; omega)⟩
  · exact Or.inr ⟨(Or.inr (Or.inr (Or.inr (Or.inr (Or.inl h))))), (by rw [h]; show (z + 3 : Nat) ≠ b; omega)⟩
  · exact Or.inr ⟨(Or.inr (Or.inr (Or.inr (Or.inr (Or.inr h))))), (by rw [h]; show (z + 4 : Nat) ≠ b; omega)⟩
theorem oX5_init_7 {g : mG} {b z : Nat} (hbz : b < z) : ∀ q : Nat × va_E, (fun q => q = (b, .inr (5, [.ref (z), .ref (z + 1), .ref (z + 2), .ref (z + 3), .int (-1 : Int32), .int 0, .int 0, .int 0, .ref (z + 4), .int 0])) ∨ q = (z, .inl (g.2.2.1, 99880, .inr (.inl (fun _ => 0)))) ∨ q = (z + 1, .inl (g.2.1, 227, .inl (fun _ => 0))) ∨ q = (z + 2, .inl (g.2.1, 227, .inl (fun _ => 0))) ∨ q = (z + 3, .inl (g.2.1, 24, .inl (upd (fun _ => 0) 0 (-1 : Int32)))) ∨ q = (z + 4, .inl (g.2.1, 6, .inl (fun _ => 0)))) q → q = (z + 3, .inl (g.2.1, 24, .inl (upd (fun _ => 0) 0 (-1 : Int32)))) ∨ ((fun q => q = (b, .inr (5, [.ref (z), .ref (z + 1), .ref (z + 2), .ref (z + 3), .int (-1 : Int32), .int 0, .int 0, .int 0, .ref (z + 4), .int 0])) ∨ q = (z, .inl (g.2.2.1, 99880, .inr (.inl (fun _ => 0)))) ∨ q = (z + 1, .inl (g.2.1, 227, .inl (fun _ => 0))) ∨ q = (z + 2, .inl (g.2.1, 227, .inl (fun _ => 0))) ∨ q = (z + 3, .inl (g.2.1, 24, .inl (fun _ => 0))) ∨ q = (z + 4, .inl (g.2.1, 6, .inl (fun _ => 0)))) q ∧ q.1 ≠ z + 3) := by
  rintro q (h | h | h | h | h | h)
  · exact Or.inr ⟨(Or.inl h), (by rw [h]; show (b : Nat) ≠ z + 3; omega)⟩
  · exact Or.inr ⟨(Or.inr (Or.inl h)), (by rw [h]; show (z : Nat) ≠ z + 3; omega)⟩
  · exact Or.inr ⟨(Or.inr (Or.inr (Or.inl h))), (by rw [h]; show (z + 1 : Nat) ≠ z + 3; omega)⟩
  · exact Or.inr ⟨(Or.inr (Or.inr (Or.inr (Or.inl h)))), (by rw [h]; show (z + 2 : Nat) ≠ z + 3; omega)⟩
  · exact Or.inl h
  · exact Or.inr ⟨(Or.inr (Or.inr (Or.inr (Or.inr (Or.inr h))))), (by rw [h]; show (z + 4 : Nat) ≠ z + 3; omega)⟩
theorem oX5_init_8 {g : mG} {b z : Nat} (hbz : b < z) : ∀ q : Nat × va_E, (fun q => q = (b, .inr (5, [.ref (z), .ref (z + 1), .ref (z + 2), .ref (z + 3), .int (-1 : Int32), .int 0, .int 0, .int 0, .ref (z + 4), .int 0])) ∨ q = (z, .inl (g.2.2.1, 99880, .inr (.inl (fun _ => 0)))) ∨ q = (z + 1, .inl (g.2.1, 227, .inl (fun _ => 0))) ∨ q = (z + 2, .inl (g.2.1, 227, .inl (fun _ => 0))) ∨ q = (z + 3, .inl (g.2.1, 24, .inl (upd (upd (fun _ => 0) 0 (-1 : Int32)) 1 (-1 : Int32)))) ∨ q = (z + 4, .inl (g.2.1, 6, .inl (fun _ => 0)))) q → q = (z + 3, .inl (g.2.1, 24, .inl (upd (upd (fun _ => 0) 0 (-1 : Int32)) 1 (-1 : Int32)))) ∨ ((fun q => q = (b, .inr (5, [.ref (z), .ref (z + 1), .ref (z + 2), .ref (z + 3), .int (-1 : Int32), .int 0, .int 0, .int 0, .ref (z + 4), .int 0])) ∨ q = (z, .inl (g.2.2.1, 99880, .inr (.inl (fun _ => 0)))) ∨ q = (z + 1, .inl (g.2.1, 227, .inl (fun _ => 0))) ∨ q = (z + 2, .inl (g.2.1, 227, .inl (fun _ => 0))) ∨ q = (z + 3, .inl (g.2.1, 24, .inl (upd (fun _ => 0) 0 (-1 : Int32)))) ∨ q = (z + 4, .inl (g.2.1, 6, .inl (fun _ => 0)))) q ∧ q.1 ≠ z + 3) := by
  rintro q (h | h | h | h | h | h)
  · exact Or.inr ⟨(Or.inl h), (by rw [h]; show (b : Nat) ≠ z + 3; omega)⟩
  · exact Or.inr ⟨(Or.inr (Or.inl h)), (by rw [h]; show (z : Nat) ≠ z + 3; omega)⟩
  · exact Or.inr ⟨(Or.inr (Or.inr (Or.inl h))), (by rw [h]; show (z + 1 : Nat) ≠ z + 3; omega)⟩
  · exact Or.inr ⟨(Or.inr (Or.inr (Or.inr (Or.inl h)))), (by rw [h]; show (z + 2 : Nat) ≠ z + 3; omega)⟩
  · exact Or.inl h
  · exact Or.inr ⟨(Or.inr (Or.inr (Or.inr (Or.inr (Or.inr h))))), (by rw [h]; show (z + 4 : Nat) ≠ z + 3; omega)⟩
theorem oX5_init_9 {g : mG} {b z : Nat} (hbz : b < z) : ∀ q : Nat × va_E, (fun q => q = (b, .inr (5, [.ref (z), .ref (z + 1), .ref (z + 2), .ref (z + 3), .int (-1 : Int32), .int 0, .int 0, .int 0, .ref (z + 4), .int 0])) ∨ q = (z, .inl (g.2.2.1, 99880, .inr (.inl (fun _ => 0)))) ∨ q = (z + 1, .inl (g.2.1, 227, .inl (fun _ => 0))) ∨ q = (z + 2, .inl (g.2.1, 227, .inl (fun _ => 0))) ∨ q = (z + 3, .inl (g.2.1, 24, .inl (upd (upd (upd (fun _ => 0) 0 (-1 : Int32)) 1 (-1 : Int32)) 2 (-1 : Int32)))) ∨ q = (z + 4, .inl (g.2.1, 6, .inl (fun _ => 0)))) q → q = (z + 3, .inl (g.2.1, 24, .inl (upd (upd (upd (fun _ => 0) 0 (-1 : Int32)) 1 (-1 : Int32)) 2 (-1 : Int32)))) ∨ ((fun q => q = (b, .inr (5, [.ref (z), .ref (z + 1), .ref (z + 2), .ref (z + 3), .int (-1 : Int32), .int 0, .int 0, .int 0, .ref (z + 4), .int 0])) ∨ q = (z, .inl (g.2.2.1, 99880, .inr (.inl (fun _ => 0)))) ∨ q = (z + 1, .inl (g.2.1, 227, .inl (fun _ => 0))) ∨ q = (z + 2, .inl (g.2.1, 227, .inl (fun _ => 0))) ∨ q = (z + 3, .inl (g.2.1, 24, .inl (upd (upd (fun _ => 0) 0 (-1 : Int32)) 1 (-1 : Int32)))) ∨ q = (z + 4, .inl (g.2.1, 6, .inl (fun _ => 0)))) q ∧ q.1 ≠ z + 3) := by
  rintro q (h | h | h | h | h | h)
  · exact Or.inr ⟨(Or.inl h), (by rw [h]; show (b : Nat) ≠ z + 3; omega)⟩
  · exact Or.inr ⟨(Or.inr (Or.inl h)), (by rw [h]; show (z : Nat) ≠ z + 3; omega)⟩
  · exact Or.inr ⟨(Or.inr (Or.inr (Or.inl h))), (by rw [h]; show (z + 1 : Nat) ≠ z + 3; omega)⟩
  · exact Or.inr ⟨(Or.inr (Or.inr (Or.inr (Or.inl h)))), (by rw [h]; show (z + 2 : Nat) ≠ z + 3; omega)⟩
  · exact Or.inl h
  · exact Or.inr ⟨(Or.inr (Or.inr (Or.inr (Or.inr (Or.inr h))))), (by rw [h]; show (z + 4 : Nat) ≠ z + 3; omega)⟩
theorem oX5_init_10 {g : mG} {b z : Nat} (hbz : b < z) : ∀ q : Nat × va_E, (fun q => q = (b, .inr (5, [.ref (z), .ref (z + 1), .ref (z + 2), .ref (z + 3), .int (-1 : Int32), .int 0, .int 0, .int 0, .ref (z + 4), .int 0])) ∨ q = (z, .inl (g.2.2.1, 99880, .inr (.inl (fun _ => 0)))) ∨ q = (z + 1, .inl (g.2.1, 227, .inl (fun _ => 0))) ∨ q = (z + 2, .inl (g.2.1, 227, .inl (fun _ => 0))) ∨ q = (z + 3, .inl (g.2.1, 24, .inl (upd (upd (upd (upd (fun _ => 0) 0 (-1 : Int32)) 1 (-1 : Int32)) 2 (-1 : Int32)) 3 (-1 : Int32)))) ∨ q = (z + 4, .inl (g.2.1, 6, .inl (fun _ => 0)))) q → q = (z + 3, .inl (g.2.1, 24, .inl (upd (upd (upd (upd (fun _ => 0) 0 (-1 : Int32)) 1 (-1 : Int32)) 2 (-1 : Int32)) 3 (-1 : Int32)))) ∨ ((fun q => q = (b, .inr (5, [.ref (z), .ref (z + 1), .ref (z + 2), .ref (z + 3), .int (-1 : Int32), .int 0, .int 0, .int 0, .ref (z + 4), .int 0])) ∨ q = (z, .inl (g.2.2.1, 99880, .inr (.inl (fun _ => 0)))) ∨ q = (z + 1, .inl (g.2.1, 227, .inl (fun _ => 0))) ∨ q = (z + 2, .inl (g.2.1, 227, .inl (fun _ => 0))) ∨ q = (z + 3, .inl (g.2.1, 24, .inl (upd (upd (upd (fun _ => 0) 0 (-1 : Int32)) 1 (-1 : Int32)) 2 (-1 : Int32)))) ∨ q = (z + 4, .inl (g.2.1, 6, .inl (fun _ => 0)))) q ∧ q.1 ≠ z + 3) := by
  rintro q (h | h | h | h | h | h)
  · exact Or.inr ⟨(Or.inl h), (by rw [h]; show (b : Nat) ≠ z + 3; omega)⟩
  · exact Or.inr ⟨(Or.inr (Or.inl h)), (by rw [h]; show (z : Nat) ≠ z + 3; omega)⟩
  · exact Or.inr ⟨(Or.inr (Or.inr (Or.inl h))), (by rw [h]; show (z + 1 : Nat) ≠ z + 3; omega)⟩
  · exact Or.inr ⟨(Or.inr (Or.inr (Or.inr (Or.inl h)))), (by rw [h]; show (z + 2 : Nat) ≠ z + 3; omega)⟩
  · exact Or.inl h
  · exact Or.inr ⟨(Or.inr (Or.inr (Or.inr (Or.inr (Or.inr h))))), (by rw [h]; show (z + 4 : Nat) ≠ z + 3; omega)⟩
theorem oX5_init_11 {g : mG} {b z : Nat} (hbz : b < z) : ∀ q : Nat × va_E, (fun q => q = (b, .inr (5, [.ref (z), .ref (z + 1), .ref (z + 2), .ref (z + 3), .int (-1 : Int32), .int 0, .int 0, .int 0, .ref (z + 4), .int 0])) ∨ q = (z, .inl (g.2.2.1, 99880, .inr (.inl (fun _ => 0)))) ∨ q = (z + 1, .inl (g.2.1, 227, .inl (fun _ => 0))) ∨ q = (z + 2, .inl (g.2.1, 227, .inl (fun _ => 0))) ∨ q = (z + 3, .inl (g.2.1, 24, .inl (upd (upd (upd (upd (upd (fun _ => 0) 0 (-1 : Int32)) 1 (-1 : Int32)) 2 (-1 : Int32)) 3 (-1 : Int32)) 4 (-1 : Int32)))) ∨ q = (z + 4, .inl (g.2.1, 6, .inl (fun _ => 0)))) q → q = (z + 3, .inl (g.2.1, 24, .inl (upd (upd (upd (upd (upd (fun _ => 0) 0 (-1 : Int32)) 1 (-1 : Int32)) 2 (-1 : Int32)) 3 (-1 : Int32)) 4 (-1 : Int32)))) ∨ ((fun q => q = (b, .inr (5, [.ref (z), .ref (z + 1), .ref (z + 2), .ref (z + 3), .int (-1 : Int32), .int 0, .int 0, .int 0, .ref (z + 4), .int 0])) ∨ q = (z, .inl (g.2.2.1, 99880, .inr (.inl (fun _ => 0)))) ∨ q = (z + 1, .inl (g.2.1, 227, .inl (fun _ => 0))) ∨ q = (z + 2, .inl (g.2.1, 227, .inl (fun _ => 0))) ∨ q = (z + 3, .inl (g.2.1, 24, .inl (upd (upd (upd (upd (fun _ => 0) 0 (-1 : Int32)) 1 (-1 : Int32)) 2 (-1 : Int32)) 3 (-1 : Int32)))) ∨ q = (z + 4, .inl (g.2.1, 6, .inl (fun _ => 0)))) q ∧ q.1 ≠ z + 3) := by
  rintro q (h | h | h | h | h | h)
  · exact Or.inr ⟨(Or.inl h), (by rw [h]; show (b : Nat) ≠ z + 3; omega)⟩
  · exact Or.inr ⟨(Or.inr (Or.inl h)), (by rw [h]; show (z : Nat) ≠ z + 3; omega)⟩
  · exact Or.inr ⟨(Or.inr (Or.inr (Or.inl h))), (by rw [h]; show (z + 1 : Nat) ≠ z + 3; omega)⟩
  · exact Or.inr ⟨(Or.inr (Or.inr (Or.inr (Or.inl h)))), (by rw [h]; show (z + 2 : Nat) ≠ z + 3; omega)⟩
  · exact Or.inl h
  · exact Or.inr ⟨(Or.inr (Or.inr (Or.inr (Or.inr (Or.inr h))))), (by rw [h]; show (z + 4 : Nat) ≠ z + 3; omega)⟩
theorem oX5_init_12 {g : mG} {b z : Nat} (hbz : b < z) : ∀ q : Nat × va_E, (fun q => q = (b, .inr (5, [.ref (z), .ref (z + 1), .ref (z + 2), .ref (z + 3), .int (-1 : Int32), .int 0, .int 0, .int 0, .ref (z + 4), .int 0])) ∨ q = (z, .inl (g.2.2.1, 99880, .inr (.inl (fun _ => 0)))) ∨ q = (z + 1, .inl (g.2.1, 227, .inl (fun _ => 0))) ∨ q = (z + 2, .inl (g.2.1, 227, .inl (fun _ => 0))) ∨ q = (z + 3, .inl (g.2.1, 24, .inl (upd (upd (upd (upd (upd (upd (fun _ => 0) 0 (-1 : Int32)) 1 (-1 : Int32)) 2 (-1 : Int32)) 3 (-1 : Int32)) 4 (-1 : Int32)) 5 (-1 : Int32)))) ∨ q = (z + 4, .inl (g.2.1, 6, .inl (fun _ => 0)))) q → q = (z + 3, .inl (g.2.1, 24, .inl (upd (upd (upd (upd (upd (upd (fun _ => 0) 0 (-1 : Int32)) 1 (-1 : Int32)) 2 (-1 : Int32)) 3 (-1 : Int32)) 4 (-1 : Int32)) 5 (-1 : Int32)))) ∨ ((fun q => q = (b, .inr (5, [.ref (z), .ref (z + 1), .ref (z + 2), .ref (z + 3), .int (-1 : Int32), .int 0, .int 0, .int 0, .ref (z + 4), .int 0])) ∨ q = (z, .inl (g.2.2.1, 99880, .inr (.inl (fun _ => 0)))) ∨ q = (z + 1, .inl (g.2.1, 227, .inl (fun _ => 0))) ∨ q = (z + 2, .inl (g.2.1, 227, .inl (fun _ => 0))) ∨ q = (z + 3, .inl (g.2.1, 24, .inl (upd (upd (upd (upd (upd (fun _ => 0) 0 (-1 : Int32)) 1 (-1 : Int32)) 2 (-1 : Int32)) 3 (-1 : Int32)) 4 (-1 : Int32)))) ∨ q = (z + 4, .inl (g.2.1, 6, .inl (fun _ => 0)))) q ∧ q.1 ≠ z + 3) := by
  rintro q (h | h | h | h | h | h)
  · exact Or.inr ⟨(Or.inl h), (by rw [h]; show (b : Nat) ≠ z + 3; omega)⟩
  · exact Or.inr ⟨(Or.inr (Or.inl h)), (by rw [h]; show (z : Nat) ≠ z + 3; omega)⟩
  · exact Or.inr ⟨(Or.inr (Or.inr (Or.inl h))), (by rw [h]; show (z + 1 : Nat) ≠ z + 3; omega)⟩
  · exact Or.inr ⟨(Or.inr (Or.inr (Or.inr (Or.inl h)))), (by rw [h]; show (z + 2 : Nat) ≠ z + 3; omega)⟩
  · exact Or.inl h
  · exact Or.inr ⟨(Or.inr (Or.inr (Or.inr (Or.inr (Or.inr h))))), (by rw [h]; show (z + 4 : Nat) ≠ z + 3; omega)⟩
theorem oX5_init_13 {g : mG} {b z : Nat} (hbz : b < z) : ∀ q : Nat × va_E, (fun q => q = (b, .inr (5, [.ref (z), .ref (z + 1), .ref (z + 2), .ref (z + 3), .int (-1 : Int32), .int 0, .int 0, .int 0, .ref (z + 4), .int 0])) ∨ q = (z, .inl (g.2.2.1, 99880, .inr (.inl (fun _ => 0)))) ∨ q = (z + 1, .inl (g.2.1, 227, .inl (fun _ => 0))) ∨ q = (z + 2, .inl (g.2.1, 227, .inl (fun _ => 0))) ∨ q = (z + 3, .inl (g.2.1, 24, .inl (upd (upd (upd (upd (upd (upd (upd (fun _ => 0) 0 (-1 : Int32)) 1 (-1 : Int32)) 2 (-1 : Int32)) 3 (-1 : Int32)) 4 (-1 : Int32)) 5 (-1 : Int32)) 6 (-1 : Int32)))) ∨ q = (z + 4, .inl (g.2.1, 6, .inl (fun _ => 0)))) q → q = (z + 3, .inl (g.2.1, 24, .inl (upd (upd (upd (upd (upd (upd (upd (fun _ => 0) 0 (-1 : Int32)) 1 (-1 : Int32)) 2 (-1 : Int32)) 3 (-1 : Int32)) 4 (-1 : Int32)) 5 (-1 : Int32)) 6 (-1 : Int32)))) ∨ ((fun q => q = (b, .inr (5, [.ref (z), .ref (z + 1), .ref (z + 2), .ref (z + 3), .int (-1 : Int32), .int 0, .int 0, .int 0, .ref (z + 4), .int 0])) ∨ q = (z, .inl (g.2.2.1, 99880, .inr (.inl (fun _ => 0)))) ∨ q = (z + 1, .inl (g.2.1, 227, .inl (fun _ => 0))) ∨ q = (z + 2, .inl (g.2.1, 227, .inl (fun _ => 0))) ∨ q = (z + 3, .inl (g.2.1, 24, .inl (upd (upd (upd (upd (upd (upd (fun _ => 0) 0 (-1 : Int32)) 1 (-1 : Int32)) 2 (-1 : Int32)) 3 (-1 : Int32)) 4 (-1 : Int32)) 5 (-1 : Int32)))) ∨ q = (z + 4, .inl (g.2.1, 6, .inl (fun _ => 0)))) q ∧ q.1 ≠ z + 3) := by
  rintro q (h | h | h | h | h | h)
  · exact Or.inr ⟨(Or.inl h), (by rw [h]; show (b : Nat) ≠ z + 3; omega)⟩
  · exact Or.inr ⟨(Or.inr (Or.inl h)), (by rw [h]; show (z : Nat) ≠ z + 3; omega)⟩
  · exact Or.inr ⟨(Or.inr (Or.inr (Or.inl h))), (by rw [h]; show (z + 1 : Nat) ≠ z + 3; omega)⟩
  · exact Or.inr ⟨(Or.inr (Or.inr (Or.inr (Or.inl h)))), (by rw [h]; show (z + 2 : Nat) ≠ z + 3; omega)⟩
  · exact Or.inl h
  · exact Or.inr ⟨(Or.inr (Or.inr (Or.inr (Or.inr (Or.inr h))))), (by rw [h]; show (z + 4 : Nat) ≠ z + 3; omega)⟩
theorem oX5_init_14 {g : mG} {b z : Nat} (hbz : b < z) : ∀ q : Nat × va_E, (fun q => q = (b, .inr (5, [.ref (z), .ref (z + 1), .ref (z + 2), .ref (z + 3), .int (-1 : Int32), .int 0, .int 0, .int 0, .ref (z + 4), .int 0])) ∨ q = (z, .inl (g.2.2.1, 99880, .inr (.inl (fun _ => 0)))) ∨ q = (z + 1, .inl (g.2.1, 227, .inl (fun _ => 0))) ∨ q = (z + 2, .inl (g.2.1, 227, .inl (fun _ => 0))) ∨ q = (z + 3, .inl (g.2.1, 24, .inl (upd (upd (upd (upd (upd (upd (upd (upd (fun _ => 0) 0 (-1 : Int32)) 1 (-1 : Int32)) 2 (-1 : Int32)) 3 (-1 : Int32)) 4 (-1 : Int32)) 5 (-1 : Int32)) 6 (-1 : Int32)) 7 (-1 : Int32)))) ∨ q = (z + 4, .inl (g.2.1, 6, .inl (fun _ => 0)))) q → q = (z + 3, .inl (g.2.1, 24, .inl (upd (upd (upd (upd (upd (upd (upd (upd (fun _ => 0) 0 (-1 : Int32)) 1 (-1 : Int32)) 2 (-1 : Int32)) 3 (-1 : Int32)) 4 (-1 : Int32)) 5 (-1 : Int32)) 6 (-1 : Int32)) 7 (-1 : Int32)))) ∨ ((fun q => q = (b, .inr (5, [.ref (z), .ref (z + 1), .ref (z + 2), .ref (z + 3), .int (-1 : Int32), .int 0, .int 0, .int 0, .ref (z + 4), .int 0])) ∨ q = (z, .inl (g.2.2.1, 99880, .inr (.inl (fun _ => 0)))) ∨ q = (z + 1, .inl (g.2.1, 227, .inl (fun _ => 0))) ∨ q = (z + 2, .inl (g.2.1, 227, .inl (fun _ => 0))) ∨ q = (z + 3, .inl (g.2.1, 24, .inl (upd (upd (upd (upd (upd (upd (upd (fun _ => 0) 0 (-1 : Int32)) 1 (-1 : Int32)) 2 (-1 : Int32)) 3 (-1 : Int32)) 4 (-1 : Int32)) 5 (-1 : Int32)) 6 (-1 : Int32)))) ∨ q = (z + 4, .inl (g.2.1, 6, .inl (fun _ => 0)))) q ∧ q.1 ≠ z + 3) := by
  rintro q (h | h | h | h | h | h)
  · exact Or.inr ⟨(Or.inl h), (by rw [h]; show (b : Nat) ≠ z + 3; omega)⟩
  · exact Or.inr ⟨(Or.inr (Or.inl h)), (by rw [h]; show (z : Nat) ≠ z + 3; omega)⟩
  · exact Or.inr ⟨(Or.inr (Or.inr (Or.inl h))), (by rw [h]; show (z + 1 : Nat) ≠ z + 3; omega)⟩
  · exact Or.inr ⟨(Or.inr (Or.inr (Or.inr (Or.inl h)))), (by rw [h]; show (z + 2 : Nat) ≠ z + 3; omega)⟩
  · exact Or.inl h
  · exact Or.inr ⟨(Or.inr (Or.inr (Or.inr (Or.inr (Or.inr h))))), (by rw [h]; show (z + 4 : Nat) ≠ z + 3; omega)⟩
theorem oX5_init_15 {g : mG} {b z : Nat} (hbz : b < z) : ∀ q : Nat × va_E, (fun q => q = (b, .inr (5, [.ref (z), .ref (z + 1), .ref (z + 2), .ref (z + 3), .int (-1 : Int32), .int 0, .int 0, .int 0, .ref (z + 4), .int 0])) ∨ q = (z, .inl (g.2.2.1, 99880, .inr (.inl (fun _ => 0)))) ∨ q = (z + 1, .inl (g.2.1, 227, .inl (fun _ => 0))) ∨ q = (z + 2, .inl (g.2.1, 227, .inl (fun _ => 0))) ∨ q = (z + 3, .inl (g.2.1, 24, .inl (upd (upd (upd (upd (upd (upd (upd (upd (upd (fun _ => 0) 0 (-1 : Int32)) 1 (-1 : Int32)) 2 (-1 : Int32)) 3 (-1 : Int32)) 4 (-1 : Int32)) 5 (-1 : Int32)) 6 (-1 : Int32)) 7 (-1 : Int32)) 8 (-1 : Int32)))) ∨ q = (z + 4, .inl (g.2.1, 6, .inl (fun _ => 0)))) q → q = (z + 3, .inl (g.2.1, 24, .inl (upd (upd (upd (upd (upd (upd (upd (upd (upd (fun _ => 0) 0 (-1 : Int32)) 1 (-1 : Int32)) 2 (-1 : Int32)) 3 (-1 : Int32)) 4 (-1 : Int32)) 5 (-1 : Int32)) 6 (-1 : Int32)) 7 (-1 : Int32)) 8 (-1 : Int32)))) ∨ ((fun q => q = (b, .inr (5, [.ref (z), .ref (z + 1), .ref (z + 2), .ref (z + 3), .int (-1 : Int32), .int 0, .int 0, .int 0, .ref (z + 4), .int 0])) ∨ q = (z, .inl (g.2.2.1, 99880, .inr (.inl (fun _ => 0)))) ∨ q = (z + 1, .inl (g.2.1, 227, .inl (fun _ => 0))) ∨ q = (z + 2, .inl (g.2.1, 227, .inl (fun _ => 0))) ∨ q = (z + 3, .inl (g.2.1, 24, .inl (upd (upd (upd (upd (upd (upd (upd (upd (fun _ => 0) 0 (-1 : Int32)) 1 (-1 : Int32)) 2 (-1 : Int32)) 3 (-1 : Int32)) 4 (-1 : Int32)) 5 (-1 : Int32)) 6 (-1 : Int32)) 7 (-1 : Int32)))) ∨ q = (z + 4, .inl (g.2.1, 6, .inl (fun _ => 0)))) q ∧ q.1 ≠ z + 3) := by
  rintro q (h | h | h | h | h | h)
  · exact Or.inr ⟨(Or.inl h), (by rw [h]; show (b : Nat) ≠ z + 3; omega)⟩
  · exact Or.inr ⟨(Or.inr (Or.inl h)), (by rw [h]; show (z : Nat) ≠ z + 3; omega)⟩
  · exact Or.inr ⟨(Or.inr (Or.inr (Or.inl h))), (by rw [h]; show (z + 1 : Nat) ≠ z + 3; omega)⟩
  · exact Or.inr ⟨(Or.inr (Or.inr (Or.inr (Or.inl h)))), (by rw [h]; show (z + 2 : Nat) ≠ z + 3; omega)⟩
  · exact Or.inl h
  · exact Or.inr ⟨(Or.inr (Or.inr (Or.inr (Or.inr (Or.inr h))))), (by rw [h]; show (z + 4 : Nat) ≠ z + 3; omega)⟩
theorem oX5_init_16 {g : mG} {b z : Nat} (hbz : b < z) : ∀ q : Nat × va_E, (fun q => q = (b, .inr (5, [.ref (z), .ref (z + 1), .ref (z + 2), .ref (z + 3), .int (-1 : Int32), .int 0, .int 0, .int 0, .ref (z + 4), .int 0])) ∨ q = (z, .inl (g.2.2.1, 99880, .inr (.inl (fun _ => 0)))) ∨ q = (z + 1, .inl (g.2.1, 227, .inl (fun _ => 0))) ∨ q = (z + 2, .inl (g.2.1, 227, .inl (fun _ => 0))) ∨ q = (z + 3, .inl (g.2.1, 24, .inl (upd (upd (upd (upd (upd (upd (upd (upd (upd (upd (fun _ => 0) 0 (-1 : Int32)) 1 (-1 : Int32)) 2 (-1 : Int32)) 3 (-1 : Int32)) 4 (-1 : Int32)) 5 (-1 : Int32)) 6 (-1 : Int32)) 7 (-1 : Int32)) 8 (-1 : Int32)) 9 (-1 : Int32)))) ∨ q = (z + 4, .inl (g.2.1, 6, .inl (fun _ => 0)))) q → q = (z + 3, .inl (g.2.1, 24, .inl (upd (upd (upd (upd (upd (upd (upd (upd (upd (upd (fun _ => 0) 0 (-1 : Int32)) 1 (-1 : Int32)) 2 (-1 : Int32)) 3 (-1 : Int32)) 4 (-1 : Int32)) 5 (-1 : Int32)) 6 (-1 : Int32)) 7 (-1 : Int32)) 8 (-1 : Int32)) 9 (-1 : Int32)))) ∨ ((fun q => q = (b, .inr (5, [.ref (z), .ref (z + 1), .ref (z + 2), .ref (z + 3), .int (-1 : Int32), .int 0, .int 0, .int 0, .ref (z + 4), .int 0])) ∨ q = (z, .inl (g.2.2.1, 99880, .inr (.inl (fun _ => 0)))) ∨ q = (z + 1, .inl (g.2.1, 227, .inl (fun _ => 0))) ∨ q = (z + 2, .inl (g.2.1, 227, .inl (fun _ => 0))) ∨ q = (z + 3, .inl (g.2.1, 24, .inl (upd (upd (upd (upd (upd (upd (upd (upd (upd (fun _ => 0) 0 (-1 : Int32)) 1 (-1 : Int32)) 2 (-1 : Int32)) 3 (-1 : Int32)) 4 (-1 : Int32)) 5 (-1 : Int32)) 6 (-1 : Int32)) 7 (-1 : Int32)) 8 (-1 : Int32)))) ∨ q = (z + 4, .inl (g.2.1, 6, .inl (fun _ => 0)))) q ∧ q.1 ≠ z + 3) := by
  rintro q (h | h | h | h | h | h)
  · exact Or.inr ⟨(Or.inl h), (by rw [h]; show (b : Nat) ≠ z + 3; omega)⟩
  · exact Or.inr ⟨(Or.inr (Or.inl h)), (by rw [h]; show (z : Nat) ≠ z + 3; omega)⟩
  · exact Or.inr ⟨(Or.inr (Or.inr (Or.inl h))), (by rw [h]; show (z + 1 : Nat) ≠ z + 3; omega)⟩
  · exact Or.inr ⟨(Or.inr (Or.inr (Or.inr (Or.inl h)))), (by rw [h]; show (z + 2 : Nat) ≠ z + 3; omega)⟩
  · exact Or.inl h
  · exact Or.inr ⟨(Or.inr (Or.inr (Or.inr (Or.inr (Or.inr h))))), (by rw [h]; show (z + 4 : Nat) ≠ z + 3; omega)⟩
theorem oX5_init_17 {g : mG} {b z : Nat} (hbz : b < z) : ∀ q : Nat × va_E, (fun q => q = (b, .inr (5, [.ref (z), .ref (z + 1), .ref (z + 2), .ref (z + 3), .int (-1 : Int32), .int 0, .int 0, .int 0, .ref (z + 4), .int 0])) ∨ q = (z, .inl (g.2.2.1, 99880, .inr (.inl (fun _ => 0)))) ∨ q = (z + 1, .inl (g.2.1, 227, .inl (fun _ => 0))) ∨ q = (z + 2, .inl (g.2.1, 227, .inl (fun _ => 0))) ∨ q = (z + 3, .inl (g.2.1, 24, .inl (upd (upd (upd (upd (upd (upd (upd (upd (upd (upd (upd (fun _ => 0) 0 (-1 : Int32)) 1 (-1 : Int32)) 2 (-1 : Int32)) 3 (-1 : Int32)) 4 (-1 : Int32)) 5 (-1 : Int32)) 6 (-1 : Int32)) 7 (-1 : Int32)) 8 (-1 : Int32)) 9 (-1 : Int32)) 10 (-1 : Int32)))) ∨ q = (z + 4, .inl (g.2.1, 6, .inl (fun _ => 0)))) q → q = (z + 3, .inl (g.2.1, 24, .inl (upd (upd (upd (upd (upd (upd (upd (upd (upd (upd (upd (fun _ => 0) 0 (-1 : Int32)) 1 (-1 : Int32)) 2 (-1 : Int32)) 3 (-1 : Int32)) 4 (-1 : Int32)) 5 (-1 : Int32)) 6 (-1 : Int32)) 7 (-1 : Int32)) 8 (-1 : Int32)) 9 (-1 : Int32)) 10 (-1 : Int32)))) ∨ ((fun q => q = (b, .inr (5, [.ref (z), .ref (z + 1), .ref (z + 2), .ref (z + 3), .int (-1 : Int32), .int 0, .int 0, .int 0, .ref (z + 4), .int 0])) ∨ q = (z, .inl (g.2.2.1, 99880, .inr (.inl (fun _ => 0)))) ∨ q = (z + 1, .inl (g.2.1, 227, .inl (fun _ => 0))) ∨ q = (z + 2, .inl (g.2.1, 227, .inl (fun _ => 0))) ∨ q = (z + 3, .inl (g.2.1, 24, .inl (upd (upd (upd (upd (upd (upd (upd (upd (upd (upd (fun _ => 0) 0 (-1 : Int32)) 1 (-1 : Int32)) 2 (-1 : Int32)) 3 (-1 : Int32)) 4 (-1 : Int32)) 5 (-1 : Int32)) 6 (-1 : Int32)) 7 (-1 : Int32)) 8 (-1 : Int32)) 9 (-1 : Int32)))) ∨ q = (z + 4, .inl (g.2.1, 6, .inl (fun _ => 0)))) q ∧ q.1 ≠ z + 3) := by
  rintro q (h | h | h | h | h | h)
  · exact Or.inr ⟨(Or.inl h), (by rw [h]; show (b : Nat) ≠ z + 3; omega)⟩
  · exact Or.inr ⟨(Or.inr (Or.inl h)), (by rw [h]; show (z : Nat) ≠ z + 3; omega)⟩
  · exact Or.inr ⟨(Or.inr (Or.inr (Or.inl h))), (by rw [h]; show (z + 1 : Nat) ≠ z + 3; omega)⟩
  · exact Or.inr ⟨(Or.inr (Or.inr (Or.inr (Or.inl h)))), (by rw [h]; show (z + 2 : Nat) ≠ z + 3; omega)⟩
  · exact Or.inl h
  · exact Or.inr ⟨(Or.inr (Or.inr (Or.inr (Or.inr (Or.inr h))))), (by rw [h]; show (z + 4 : Nat) ≠ z + 3; omega)⟩
theorem oX5_init_18 {g : mG} {b z : Nat} (hbz : b < z) : ∀ q : Nat × va_E, (fun q => q = (b, .inr (5, [.ref (z), .ref (z + 1), .ref (z + 2), .ref (z + 3), .int (-1 : Int32), .int 0, .int 0, .int 0, .ref (z + 4), .int 0])) ∨ q = (z, .inl (g.2.2.1, 99880, .inr (.inl (fun _ => 0)))) ∨ q = (z + 1, .inl (g.2.1, 227, .inl (fun _ => 0))) ∨ q = (z + 2, .inl (g.2.1, 227, .inl (fun _ => 0))) ∨ q = (z + 3, .inl (g.2.1, 24, .inl (upd (upd (upd (upd (upd (upd (upd (upd (upd (upd (upd (upd (fun _ => 0) 0 (-1 : Int32)) 1 (-1 : Int32)) 2 (-1 : Int32)) 3 (-1 : Int32)) 4 (-1 : Int32)) 5 (-1 : Int32)) 6 (-1 : Int32)) 7 (-1 : Int32)) 8 (-1 : Int32)) 9 (-1 : Int32)) 10 (-1 : Int32)) 11 (-1 : Int32)))) ∨ q = (z + 4, .inl (g.2.1, 6, .inl (fun _ => 0)))) q → q = (z + 3, .inl (g.2.1, 24, .inl (upd (upd (upd (upd (upd (upd (upd (upd (upd (upd (upd (upd (fun _ => 0) 0 (-1 : Int32)) 1 (-1 : Int32)) 2 (-1 : Int32)) 3 (-1 : Int32)) 4 (-1 : Int32)) 5 (-1 : Int32)) 6 (-1 : Int32)) 7 (-1 : Int32)) 8 (-1 : Int32)) 9 (-1 : Int32)) 10 (-1 : Int32)) 11 (-1 : Int32)))) ∨ ((fun q => q = (b, .inr (5, [.ref (z), .ref (z + 1), .ref (z + 2), .ref (z + 3), .int (-1 : Int32), .int 0, .int 0, .int 0, .ref (z + 4), .int 0])) ∨ q = (z, .inl (g.2.2.1, 99880, .inr (.inl (fun _ => 0)))) ∨ q = (z + 1, .inl (g.2.1, 227, .inl (fun _ => 0))) ∨ q = (z + 2, .inl (g.2.1, 227, .inl (fun _ => 0))) ∨ q = (z + 3, .inl (g.2.1, 24, .inl (upd (upd (upd (upd (upd (upd (upd (upd (upd (upd (upd (fun _ => 0) 0 (-1 : Int32)) 1 (-1 : Int32)) 2 (-1 : Int32)) 3 (-1 : Int32)) 4 (-1 : Int32)) 5 (-1 : Int32)) 6 (-1 : Int32)) 7 (-1 : Int32)) 8 (-1 : Int32)) 9 (-1 : Int32)) 10 (-1 : Int32)))) ∨ q = (z + 4, .inl (g.2.1, 6, .inl (fun _ => 0)))) q ∧ q.1 ≠ z + 3) := by
  rintro q (h | h | h | h | h | h)
  · exact Or.inr ⟨(Or.inl h), (by rw [h]; show (b : Nat) ≠ z + 3; omega)⟩
  · exact Or.inr ⟨(Or.inr (Or.inl h)), (by rw [h]; show (z : Nat) ≠ z + 3; omega)⟩
  · exact Or.inr ⟨(Or.inr (Or.inr (Or.inl h))), (by rw [h]; show (z + 1 : Nat) ≠ z + 3; omega)⟩
  · exact Or.inr ⟨(Or.inr (Or.inr (Or.inr (Or.inl h)))), (by rw [h]; show (z + 2 : Nat) ≠ z + 3; omega)⟩
  · exact Or.inl h
  · exact Or.inr ⟨(Or.inr (Or.inr (Or.inr (Or.inr (Or.inr h))))), (by rw [h]; show (z + 4 : Nat) ≠ z + 3; omega)⟩
theorem oX5_init_19 {g : mG} {b z : Nat} (hbz : b < z) : ∀ q : Nat × va_E, (fun q => q = (b, .inr (5, [.ref (z), .ref (z + 1), .ref (z + 2), .ref (z + 3), .int (-1 : Int32), .int 0, .int 0, .int 0, .ref (z + 4), .int 0])) ∨ q = (z, .inl (g.2.2.1, 99880, .inr (.inl (fun _ => 0)))) ∨ q = (z + 1, .inl (g.2.1, 227, .inl (fun _ => 0))) ∨ q = (z + 2, .inl (g.2.1, 227, .inl (fun _ => 0))) ∨ q = (z + 3, .inl (g.2.1, 24, .inl (upd (upd (upd (upd (upd (upd (upd (upd (upd (upd (upd (upd (upd (fun _ => 0) 0 (-1 : Int32)) 1 (-1 : Int32)) 2 (-1 : Int32)) 3 (-1 : Int32)) 4 (-1 : Int32)) 5 (-1 : Int32)) 6 (-1 : Int32)) 7 (-1 : Int32)) 8 (-1 : Int32)) 9 (-1 : Int32)) 10 (-1 : Int32)) 11 (-1 : Int32)) 12 (-1 : Int32)))) ∨ q = (z + 4, .inl (g.2.1, 6, .inl (fun _ => 0)))) q → q = (z + 3, .inl (g.2.1, 24, .inl (upd (upd (upd (upd (upd (upd (upd (upd (upd (upd (upd (upd (upd (fun _ => 0) 0 (-1 : Int32)) 1 (-1 : Int32)) 2 (-1 : Int32)) 3 (-1 : Int32)) 4 (-1 : Int32)) 5 (-1 : Int32)) 6 (-1 : Int32)) 7 (-1 : Int32)) 8 (-1 : Int32)) 9 (-1 : Int32)) 10 (-1 : Int32)) 11 (-1 : Int32)) 12 (-1 : Int32)))) ∨ ((fun q => q = (b, .inr (5, [.ref (z), .ref (z + 1), .ref (z + 2), .ref (z + 3), .int (-1 : Int32), .int 0, .int 0, .int 0, .ref (z + 4), .int 0])) ∨ q = (z, .inl (g.2.2.1, 99880, .inr (.inl (fun _ => 0)))) ∨ q = (z + 1, .inl (g.2.1, 227, .inl (fun _ => 0))) ∨ q = (z + 2, .inl (g.2.1, 227, .inl (fun _ => 0))) ∨ q = (z + 3, .inl (g.2.1, 24, .inl (upd (upd (upd (upd (upd (upd (upd (upd (upd (upd (upd (upd (fun _ => 0) 0 (-1 : Int32)) 1 (-1 : Int32)) 2 (-1 : Int32)) 3 (-1 : Int32)) 4 (-1 : Int32)) 5 (-1 : Int32)) 6 (-1 : Int32)) 7 (-1 : Int32)) 8 (-1 : Int32)) 9 (-1 : Int32)) 10 (-1 : Int32)) 11 (-1 : Int32)))) ∨ q = (z + 4, .inl (g.2.1, 6, .inl (fun _ => 0)))) q ∧ q.1 ≠ z + 3) := by
  rintro q (h | h | h | h | h | h)
  · exact Or.inr ⟨(Or.inl h), (by rw [h]; show (b : Nat) ≠ z + 3; omega)⟩
  · exact Or.inr ⟨(Or.inr (Or.inl h)), (by rw [h]; show (z : Nat) ≠ z + 3; omega)⟩
  · exact Or.inr ⟨(Or.inr (Or.inr (Or.inl h))), (by rw [h]; show (z + 1 : Nat) ≠ z + 3; omega)⟩
  · exact Or.inr ⟨(Or.inr (Or.inr (Or.inr (Or.inl h)))), (by rw [h]; show (z + 2 : Nat) ≠ z + 3; omega)⟩
  · exact Or.inl h
  · exact Or.inr ⟨(Or.inr (Or.inr (Or.inr (Or.inr (Or.inr h))))), (by rw [h]; show (z + 4 : Nat) ≠ z + 3; omega)⟩
theorem oX5_init_20 {g : mG} {b z : Nat} (hbz : b < z) : ∀ q : Nat × va_E, (fun q => q = (b, .inr (5, [.ref (z), .ref (z + 1), .ref (z + 2), .ref (z + 3), .int (-1 : Int32), .int 0, .int 0, .int 0, .ref (z + 4), .int 0])) ∨ q = (z, .inl (g.2.2.1, 99880, .inr (.inl (fun _ => 0)))) ∨ q = (z + 1, .inl (g.2.1, 227, .inl (fun _ => 0))) ∨ q = (z + 2, .inl (g.2.1, 227, .inl (fun _ => 0))) ∨ q = (z + 3, .inl (g.2.1, 24, .inl (upd (upd (upd (upd (upd (upd (upd (upd (upd (upd (upd (upd (upd (upd (fun _ => 0) 0 (-1 : Int32)) 1 (-1 : Int32)) 2 (-1 : Int32)) 3 (-1 : Int32)) 4 (-1 : Int32)) 5 (-1 : Int32)) 6 (-1 : Int32)) 7 (-1 : Int32)) 8 (-1 : Int32)) 9 (-1 : Int32)) 10 (-1 : Int32)) 11 (-1 : Int32)) 12 (-1 : Int32)) 13 (-1 : Int32)))) ∨ q = (z + 4, .inl (g.2.1, 6, .inl (fun _ => 0)))) q → q = (z + 3, .inl (g.2.1, 24, .inl (upd (upd (upd (upd (upd (upd (upd (upd (upd (upd (upd (upd (upd (upd (fun _ => 0) 0 (-1 : Int32)) 1 (-1 : Int32)) 2 (-1 : Int32)) 3 (-1 : Int32)) 4 (-1 : Int32)) 5 (-1 : Int32)) 6 (-1 : Int32)) 7 (-1 : Int32)) 8 (-1 : Int32)) 9 (-1 : Int32)) 10 (-1 : Int32)) 11 (-1 : Int32)) 12 (-1 : Int32)) 13 (-1 : Int32)))) ∨ ((fun q => q = (b, .inr (5, [.ref (z), .ref (z + 1), .ref (z + 2), .ref (z + 3), .int (-1 : Int32), .int 0, .int 0, .int 0, .ref (z + 4), .int 0])) ∨ q = (z, .inl (g.2.2.1, 99880, .inr (.inl (fun _ => 0)))) ∨ q = (z + 1, .inl (g.2.1, 227, .inl (fun _ => 0))) ∨ q = (z + 2, .inl (g.2.1, 227, .inl (fun _ => 0))) ∨ q = (z + 3, .inl (g.2.1, 24, .inl (upd (upd (upd (upd (upd (upd (upd (upd (upd (upd (upd (upd (upd (fun _ => 0) 0 (-1 : Int32)) 1 (-1 : Int32)) 2 (-1 : Int32)) 3 (-1 : Int32)) 4 (-1 : Int32)) 5 (-1 : Int32)) 6 (-1 : Int32)) 7 (-1 : Int32)) 8 (-1 : Int32)) 9 (-1 : Int32)) 10 (-1 : Int32)) 11 (-1 : Int32)) 12 (-1 : Int32)))) ∨ q = (z + 4, .inl (g.2.1, 6, .inl (fun _ => 0)))) q ∧ q.1 ≠ z + 3) := by
  rintro q (h | h | h | h | h | h)
  · exact Or.inr ⟨(Or.inl h), (by rw [h]; show (b : Nat) ≠ z + 3; omega)⟩
  · exact Or.inr ⟨(Or.inr (Or.inl h)), (by rw [h]; show (z : Nat) ≠ z + 3; omega)⟩
  · exact Or.inr ⟨(Or.inr (Or.inr (Or.inl h))), (by rw [h]; show (z + 1 : Nat) ≠ z + 3; omega)⟩
  · exact Or.inr ⟨(Or.inr (Or.inr (Or.inr (Or.inl h)))), (by rw [h]; show (z + 2 : Nat) ≠ z + 3; omega)⟩
  · exact Or.inl h
  · exact Or.inr ⟨(Or.inr (Or.inr (Or.inr (Or.inr (Or.inr h))))), (by rw [h]; show (z + 4 : Nat) ≠ z + 3; omega)⟩
theorem oX5_init_21 {g : mG} {b z : Nat} (hbz : b < z) : ∀ q : Nat × va_E, (fun q => q = (b, .inr (5, [.ref (z), .ref (z + 1), .ref (z + 2), .ref (z + 3), .int (-1 : Int32), .int 0, .int 0, .int 0, .ref (z + 4), .int 0])) ∨ q = (z, .inl (g.2.2.1, 99880, .inr (.inl (fun _ => 0)))) ∨ q = (z + 1, .inl (g.2.1, 227, .inl (fun _ => 0))) ∨ q = (z + 2, .inl (g.2.1, 227, .inl (fun _ => 0))) ∨ q = (z + 3, .inl (g.2.1, 24, .inl (upd (upd (upd (upd (upd (upd (upd (upd (upd (upd (upd (upd (upd (upd (upd (fun _ => 0) 0 (-1 : Int32)) 1 (-1 : Int32)) 2 (-1 : Int32)) 3 (-1 : Int32)) 4 (-1 : Int32)) 5 (-1 : Int32)) 6 (-1 : Int32)) 7 (-1 : Int32)) 8 (-1 : Int32)) 9 (-1 : Int32)) 10 (-1 : Int32)) 11 (-1 : Int32)) 12 (-1 : Int32)) 13 (-1 : Int32)) 14 (-1 : Int32)))) ∨ q = (z + 4, .inl (g.2.1, 6, .inl (fun _ => 0)))) q → q = (z + 3, .inl (g.2.1, 24, .inl (upd (upd (upd (upd (upd (upd (upd (upd (upd (upd (upd (upd (upd (upd (upd (fun _ => 0) 0 (-1 : Int32)) 1 (-1 : Int32)) 2 (-1 : Int32)) 3 (-1 : Int32)) 4 (-1 : Int32)) 5 (-1 : Int32)) 6 (-1 : Int32)) 7 (-1 : Int32)) 8 (-1 : Int32)) 9 (-1 : Int32)) 10 (-1 : Int32)) 11 (-1 : Int32)) 12 (-1 : Int32)) 13 (-1 : Int32)) 14 (-1 : Int32)))) ∨ ((fun q => q = (b, .inr (5, [.ref (z), .ref (z + 1), .ref (z + 2), .ref (z + 3), .int (-1 : Int32), .int 0, .int 0, .int 0, .ref (z + 4), .int 0])) ∨ q = (z, .inl (g.2.2.1, 99880, .inr (.inl (fun _ => 0)))) ∨ q = (z + 1, .inl (g.2.1, 227, .inl (fun _ => 0))) ∨ q = (z + 2, .inl (g.2.1, 227, .inl (fun _ => 0))) ∨ q = (z + 3, .inl (g.2.1, 24, .inl (upd (upd (upd (upd (upd (upd (upd (upd (upd (upd (upd (upd (upd (upd (fun _ => 0) 0 (-1 : Int32)) 1 (-1 : Int32)) 2 (-1 : Int32)) 3 (-1 : Int32)) 4 (-1 : Int32)) 5 (-1 : Int32)) 6 (-1 : Int32)) 7 (-1 : Int32)) 8 (-1 : Int32)) 9 (-1 : Int32)) 10 (-1 : Int32)) 11 (-1 : Int32)) 12 (-1 : Int32)) 13 (-1 : Int32)))) ∨ q = (z + 4, .inl (g.2.1, 6, .inl (fun _ => 0)))) q ∧ q.1 ≠ z + 3) := by
  rintro q (h | h | h | h | h | h)
  · exact Or.inr ⟨(Or.inl h), (by rw [h]; show (b : Nat) ≠ z + 3; omega)⟩
  · exact Or.inr ⟨(Or.inr (Or.inl h)), (by rw [h]; show (z : Nat) ≠ z + 3; omega)⟩
  · exact Or.inr ⟨(Or.inr (Or.inr (Or.inl h))), (by rw [h]; show (z + 1 : Nat) ≠ z + 3; omega)⟩
  · exact Or.inr ⟨(Or.inr (Or.inr (Or.inr (Or.inl h)))), (by rw [h]; show (z + 2 : Nat) ≠ z + 3; omega)⟩
  · exact Or.inl h
  · exact Or.inr ⟨(Or.inr (Or.inr (Or.inr (Or.inr (Or.inr h))))), (by rw [h]; show (z + 4 : Nat) ≠ z + 3; omega)⟩
theorem oX5_init_22 {g : mG} {b z : Nat} (hbz : b < z) : ∀ q : Nat × va_E, (fun q => q = (b, .inr (5, [.ref (z), .ref (z + 1), .ref (z + 2), .ref (z + 3), .int (-1 : Int32), .int 0, .int 0, .int 0, .ref (z + 4), .int 0])) ∨ q = (z, .inl (g.2.2.1, 99880, .inr (.inl (fun _ => 0)))) ∨ q = (z + 1, .inl (g.2.1, 227, .inl (fun _ => 0))) ∨ q = (z + 2, .inl (g.2.1, 227, .inl (fun _ => 0))) ∨ q = (z + 3, .inl (g.2.1, 24, .inl (upd (upd (upd (upd (upd (upd (upd (upd (upd (upd (upd (upd (upd (upd (upd (upd (fun _ => 0) 0 (-1 : Int32)) 1 (-1 : Int32)) 2 (-1 : Int32)) 3 (-1 : Int32)) 4 (-1 : Int32)) 5 (-1 : Int32)) 6 (-1 : Int32)) 7 (-1 : Int32)) 8 (-1 : Int32)) 9 (-1 : Int32)) 10 (-1 : Int32)) 11 (-1 : Int32)) 12 (-1 : Int32)) 13 (-1 : Int32)) 14 (-1 : Int32)) 15 (-1 : Int32)))) ∨ q = (z + 4, .inl (g.2.1, 6, .inl (fun _ => 0)))) q → q = (z + 3, .inl (g.2.1, 24, .inl (upd (upd (upd (upd (upd (upd (upd (upd (upd (upd (upd (upd (upd (upd (upd (upd (fun _ => 0) 0 (-1 : Int32)) 1 (-1 : Int32)) 2 (-1 : Int32)) 3 (-1 : Int32)) 4 (-1 : Int32)) 5 (-1 : Int32)) 6 (-1 : Int32)) 7 (-1 : Int32)) 8 (-1 : Int32)) 9 (-1 : Int32)) 10 (-1 : Int32)) 11 (-1 : Int32)) 12 (-1 : Int32)) 13 (-1 : Int32)) 14 (-1 : Int32)) 15 (-1 : Int32)))) ∨ ((fun q => q = (b, .inr (5, [.ref (z), .ref (z + 1), .ref (z + 2), .ref (z + 3), .int (-1 : Int32), .int 0, .int 0, .int 0, .ref (z + 4), .int 0])) ∨ q = (z, .inl (g.2.2.1, 99880, .inr (.inl (fun _ => 0)))) ∨ q = (z + 1, .inl (g.2.1, 227, .inl (fun _ => 0))) ∨ q = (z + 2, .inl (g.2.1, 227, .inl (fun _ => 0))) ∨ q = (z + 3, .inl (g.2.1, 24, .inl (upd (upd (upd (upd (upd (upd (upd (upd (upd (upd (upd (upd (upd (upd (upd (fun _ => 0) 0 (-1 : Int32)) 1 (-1 : Int32)) 2 (-1 : Int32)) 3 (-1 : Int32)) 4 (-1 : Int32)) 5 (-1 : Int32)) 6 (-1 : Int32)) 7 (-1 : Int32)) 8 (-1 : Int32)) 9 (-1 : Int32)) 10 (-1 : Int32)) 11 (-1 : Int32)) 12 (-1 : Int32)) 13 (-1 : Int32)) 14 (-1 : Int32)))) ∨ q = (z + 4, .inl (g.2.1, 6, .inl (fun _ => 0)))) q ∧ q.1 ≠ z + 3) := by
  rintro q (h | h | h | h | h | h)
  · exact Or.inr ⟨(Or.inl h), (by rw [h]; show (b : Nat) ≠ z + 3; omega)⟩
  · exact Or.inr ⟨(Or.inr (Or.inl h)), (by rw [h]; show (z : Nat) ≠ z + 3; omega)⟩
  · exact Or.inr ⟨(Or.inr (Or.inr (Or.inl h))), (by rw [h]; show (z + 1 : Nat) ≠ z + 3; omega)⟩
  · exact Or.inr ⟨(Or.inr (Or.inr (Or.inr (Or.inl h)))), (by rw [h]; show (z + 2 : Nat) ≠ z + 3; omega)⟩
  · exact Or.inl h
  · exact Or.inr ⟨(Or.inr (Or.inr (Or.inr (Or.inr (Or.inr h))))), (by rw [h]; show (z + 4 : Nat) ≠ z + 3; omega)⟩
theorem oX5_init_23 {g : mG} {b z : Nat} (hbz : b < z) : ∀ q : Nat × va_E, (fun q => q = (b, .inr (5, [.ref (z), .ref (z + 1), .ref (z + 2), .ref (z + 3), .int (-1 : Int32), .int 0, .int 0, .int 0, .ref (z + 4), .int 0])) ∨ q = (z, .inl (g.2.2.1, 99880, .inr (.inl (fun _ => 0)))) ∨ q = (z + 1, .inl (g.2.1, 227, .inl (fun _ => 0))) ∨ q = (z + 2, .inl (g.2.1, 227, .inl (fun _ => 0))) ∨ q = (z + 3, .inl (g.2.1, 24, .inl (upd (upd (upd (upd (upd (upd (upd (upd (upd (upd (upd (upd (upd (upd (upd (upd (upd (fun _ => 0) 0 (-1 : Int32)) 1 (-1 : Int32)) 2 (-1 : Int32)) 3 (-1 : Int32)) 4 (-1 : Int32)) 5 (-1 : Int32)) 6 (-1 : Int32)) 7 (-1 : Int32)) 8 (-1 : Int32)) 9 (-1 : Int32)) 10 (-1 : Int32)) 11 (-1 : Int32)) 12 (-1 : Int32)) 13 (-1 : Int32)) 14 (-1 : Int32)) 15 (-1 : Int32)) 16 (-1 : Int32)))) ∨ q = (z + 4, .inl (g.2.1, 6, .inl (fun _ => 0)))) q → q = (z + 3, .inl (g.2.1, 24, .inl (upd (upd (upd (upd (upd (upd (upd (upd (upd (upd (upd (upd (upd (upd (upd (upd (upd (fun _ => 0) 0 (-1 : Int32)) 1 (-1 : Int32)) 2 (-1 : Int32)) 3 (-1 : Int32)) 4 (-1 : Int32)) 5 (-1 : Int32)) 6 (-1 : Int32)) 7 (-1 : Int32)) 8 (-1 : Int32)) 9 (-1 : Int32)) 10 (-1 : Int32)) 11 (-1 : Int32)) 12 (-1 : Int32)) 13 (-1 : Int32)) 14 (-1 : Int32)) 15 (-1 : Int32)) 16 (-1 : Int32)))) ∨ ((fun q => q = (b, .inr (5, [.ref (z), .ref (z + 1), .ref (z + 2), .ref (z + 3), .int (-1 : Int32), .int 0, .int 0, .int 0, .ref (z + 4), .int 0])) ∨ q = (z, .inl (g.2.2.1, 99880, .inr (.inl (fun _ => 0)))) ∨ q = (z + 1, .inl (g.2.1, 227, .inl (fun _ => 0))) ∨ q = (z + 2, .inl (g.2.1, 227, .inl (fun _ => 0))) ∨ q = (z + 3, .inl (g.2.1, 24, .inl (upd (upd (upd (upd (upd (upd (upd (upd (upd (upd (upd (upd (upd (upd (upd (upd (fun _ => 0) 0 (-1 : Int32)) 1 (-1 : Int32)) 2 (-1 : Int32)) 3 (-1 : Int32)) 4 (-1 : Int32)) 5 (-1 : Int32)) 6 (-1 : Int32)) 7 (-1 : Int32)) 8 (-1 : Int32)) 9 (-1 : Int32)) 10 (-1 : Int32)) 11 (-1 : Int32)) 12 (-1 : Int32)) 13 (-1 : Int32)) 14 (-1 : Int32)) 15 (-1 : Int32)))) ∨ q = (z + 4, .inl (g.2.1, 6, .inl (fun _ => 0)))) q ∧ q.1 ≠ z + 3) := by
  rintro q (h | h | h | h | h | h)
  · exact Or.inr ⟨(Or.inl h), (by rw [h]; show (b : Nat) ≠ z + 3; omega)⟩
  · exact Or.inr ⟨(Or.inr (Or.inl h)), (by rw [h]; show (z : Nat) ≠ z + 3; omega)⟩
  · exact Or.inr ⟨(Or.inr (Or.inr (Or.inl h))), (by rw [h]; show (z + 1 : Nat) ≠ z + 3; omega)⟩
  · exact Or.inr ⟨(Or.inr (Or.inr (Or.inr (Or.inl h)))), (by rw [h]; show (z + 2 : Nat) ≠ z + 3; omega)⟩
  · exact Or.inl h
  · exact Or.inr ⟨(Or.inr (Or.inr (Or.inr (Or.inr (Or.inr h))))), (by rw [h]; show (z + 4 : Nat) ≠ z + 3; omega)⟩
theorem oX5_init_24 {g : mG} {b z : Nat} (hbz : b < z) : ∀ q : Nat × va_E, (fun q => q = (b, .inr (5, [.ref (z), .ref (z + 1), .ref (z + 2), .ref (z + 3), .int (-1 : Int32), .int 0, .int 0, .int 0, .ref (z + 4), .int 0])) ∨ q = (z, .inl (g.2.2.1, 99880, .inr (.inl (fun _ => 0)))) ∨ q = (z + 1, .inl (g.2.1, 227, .inl (fun _ => 0))) ∨ q = (z + 2, .inl (g.2.1, 227, .inl (fun _ => 0))) ∨ q = (z + 3, .inl (g.2.1, 24, .inl (upd (upd (upd (upd (upd (upd (upd (upd (upd (upd (upd (upd (upd (upd (upd (upd (upd (upd (fun _ => 0) 0 (-1 : Int32)) 1 (-1 : Int32)) 2 (-1 : Int32)) 3 (-1 : Int32)) 4 (-1 : Int32)) 5 (-1 : Int32)) 6 (-1 : Int32)) 7 (-1 : Int32)) 8 (-1 : Int32)) 9 (-1 : Int32)) 10 (-1 : Int32)) 11 (-1 : Int32)) 12 (-1 : Int32)) 13 (-1 : Int32)) 14 (-1 : Int32)) 15 (-1 : Int32)) 16 (-1 : Int32)) 17 (-1 : Int32)))) ∨ q = (z + 4, .inl (g.2.1, 6, .inl (fun _ => 0)))) q → q = (z + 3, .inl (g.2.1, 24, .inl (upd (upd (upd (upd (upd (upd (upd (upd (upd (upd (upd (upd (upd (upd (upd (upd (upd (upd (fun _ => 0) 0 (-1 : Int32)) 1 (-1 : Int32)) 2 (-1 : Int32)) 3 (-1 : Int32)) 4 (-1 : Int32)) 5 (-1 : Int32)) 6 (-1 : Int32)) 7 (-1 : Int32)) 8 (-1 : Int32)) 9 (-1 : Int32)) 10 (-1 : Int32)) 11 (-1 : Int32)) 12 (-1 : Int32)) 13 (-1 : Int32)) 14 (-1 : Int32)) 15 (-1 : Int32)) 16 (-1 : Int32)) 17 (-1 : Int32)))) ∨ ((fun q => q = (b, .inr (5, [.ref (z), .ref (z + 1), .ref (z + 2), .ref (z + 3), .int (-1 : Int32), .int 0, .int 0, .int 0, .ref (z + 4), .int 0])) ∨ q = (z, .inl (g.2.2.1, 99880, .inr (.inl (fun _ => 0)))) ∨ q = (z + 1, .inl (g.2.1, 227, .inl (fun _ => 0))) ∨ q = (z + 2, .inl (g.2.1, 227, .inl (fun _ => 0))) ∨ q = (z + 3, .inl (g.2.1, 24, .inl (upd (upd (upd (upd (upd (upd (upd (upd (upd (upd (upd (upd (upd (upd (upd (upd (upd (fun _ => 0) 0 (-1 : Int32)) 1 (-1 : Int32)) 2 (-1 : Int32)) 3 (-1 : Int32)) 4 (-1 : Int32)) 5 (-1 : Int32)) 6 (-1 : Int32)) 7 (-1 : Int32)) 8 (-1 : Int32)) 9 (-1 : Int32)) 10 (-1 : Int32)) 11 (-1 : Int32)) 12 (-1 : Int32)) 13 (-1 : Int32)) 14 (-1 : Int32)) 15 (-1 : Int32)) 16 (-1 : Int32)))) ∨ q = (z + 4, .inl (g.2.1, 6, .inl (fun _ => 0)))) q ∧ q.1 ≠ z + 3) := by
  rintro q (h | h | h | h | h | h)
  · exact Or.inr ⟨(Or.inl h), (by rw [h]; show (b : Nat) ≠ z + 3; omega)⟩
  · exact Or.inr ⟨(Or.inr (Or.inl h)), (by rw [h]; show (z : Nat) ≠ z + 3; omega)⟩
  · exact Or.inr ⟨(Or.inr (Or.inr (Or.inl h))), (by rw [h]; show (z + 1 : Nat) ≠ z + 3; omega)⟩
  · exact Or.inr ⟨(Or.inr (Or.inr (Or.inr (Or.inl h)))), (by rw [h]; show (z + 2 : Nat) ≠ z + 3; omega)⟩
  · exact Or.inl h
  · exact Or.inr ⟨(Or.inr (Or.inr (Or.inr (Or.inr (Or.inr h))))), (by rw [h]; show (z + 4 : Nat) ≠ z + 3; omega)⟩
theorem oX5_init_25 {g : mG} {b z : Nat} (hbz : b < z) : ∀ q : Nat × va_E, (fun q => q = (b, .inr (5, [.ref (z), .ref (z + 1), .ref (z + 2), .ref (z + 3), .int (-1 : Int32), .int 0, .int 0, .int 0, .ref (z + 4), .int 0])) ∨ q = (z, .inl (g.2.2.1, 99880, .inr (.inl (fun _ => 0)))) ∨ q = (z + 1, .inl (g.2.1, 227, .inl (fun _ => 0))) ∨ q = (z + 2, .inl (g.2.1, 227, .inl (fun _ => 0))) ∨ q = (z + 3, .inl (g.2.1, 24, .inl (upd (upd (upd (upd (upd (upd (upd (upd (upd (upd (upd (upd (upd (upd (upd (upd (upd (upd (upd (fun _ => 0) 0 (-1 : Int32)) 1 (-1 : Int32)) 2 (-1 : Int32)) 3 (-1 : Int32)) 4 (-1 : Int32)) 5 (-1 : Int32)) 6 (-1 : Int32)) 7 (-1 : Int32)) 8 (-1 : Int32)) 9 (-1 : Int32)) 10 (-1 : Int32)) 11 (-1 : Int32)) 12 (-1 : Int32)) 13 (-1 : Int32)) 14 (-1 : Int32)) 15 (-1 : Int32)) 16 (-1 : Int32)) 17 (-1 : Int32)) 18 (-1 : Int32)))) ∨ q = (z + 4, .inl (g.2.1, 6, .inl (fun _ => 0)))) q → q = (z + 3, .inl (g.2.1, 24, .inl (upd (upd (upd (upd (upd (upd (upd (upd (upd (upd (upd (upd (upd (upd (upd (upd (upd (upd (upd (fun _ => 0) 0 (-1 : Int32)) 1 (-1 : Int32)) 2 (-1 : Int32)) 3 (-1 : Int32)) 4 (-1 : Int32)) 5 (-1 : Int32)) 6 (-1 : Int32)) 7 (-1 : Int32)) 8 (-1 : Int32)) 9 (-1 : Int32)) 10 (-1 : Int32)) 11 (-1 : Int32)) 12 (-1 : Int32)) 13 (-1 : Int32)) 14 (-1 : Int32)) 15 (-1 : Int32)) 16 (-1 : Int32)) 17 (-1 : Int32)) 18 (-1 : Int32)))) ∨ ((fun q => q = (b, .inr (5, [.ref (z), .ref (z + 1), .ref (z + 2), .ref (z + 3), .int (-1 : Int32), .int 0, .int 0, .int 0, .ref (z + 4), .int 0])) ∨ q = (z, .inl (g.2.2.1, 99880, .inr (.inl (fun _ => 0)))) ∨ q = (z + 1, .inl (g.2.1, 227, .inl (fun _ => 0))) ∨ q = (z + 2, .inl (g.2.1, 227, .inl (fun _ => 0))) ∨ q = (z + 3, .inl (g.2.1, 24, .inl (upd (upd (upd (upd (upd (upd (upd (upd (upd (upd (upd (upd (upd (upd (upd (upd (upd (upd (fun _ => 0) 0 (-1 : Int32)) 1 (-1 : Int32)) 2 (-1 : Int32)) 3 (-1 : Int32)) 4 (-1 : Int32)) 5 (-1 : Int32)) 6 (-1 : Int32)) 7 (-1 : Int32)) 8 (-1 : Int32)) 9 (-1 : Int32)) 10 (-1 : Int32)) 11 (-1 : Int32)) 12 (-1 : Int32)) 13 (-1 : Int32)) 14 (-1 : Int32)) 15 (-1 : Int32)) 16 (-1 : Int32)) 17 (-1 : Int32)))) ∨ q = (z + 4, .inl (g.2.1, 6, .inl (fun _ => 0)))) q ∧ q.1 ≠ z + 3) := by
  rintro q (h | h | h | h | h | h)
  · exact Or.inr ⟨(Or.inl h), (by rw [h]; show (b : Nat) ≠ z + 3; omega)⟩
  · exact Or.inr ⟨(Or.inr (Or.inl h)), (by rw [h]; show (z : Nat) ≠ z + 3; omega)⟩
  · exact Or.inr ⟨(Or.inr (Or.inr (Or.inl h))), (by rw [h]; show (z + 1 : Nat) ≠ z + 3; omega)⟩
  · exact Or.inr ⟨(Or.inr (Or.inr (Or.inr (Or.inl h)))), (by rw [h]; show (z + 2 : Nat) ≠ z + 3; omega)⟩
  · exact Or.inl h
  · exact Or.inr ⟨(Or.inr (Or.inr (Or.inr (Or.inr (Or.inr h))))), (by rw [h]; show (z + 4 : Nat) ≠ z + 3; omega)⟩
theorem oX5_init_26 {g : mG} {b z : Nat} (hbz : b < z) : ∀ q : Nat × va_E, (fun q => q = (b, .inr (5, [.ref (z), .ref (z + 1), .ref (z + 2), .ref (z + 3), .int (-1 : Int32), .int 0, .int 0, .int 0, .ref (z + 4), .int 0])) ∨ q = (z, .inl (g.2.2.1, 99880, .inr (.inl (fun _ => 0)))) ∨ q = (z + 1, .inl (g.2.1, 227, .inl (fun _ => 0))) ∨ q = (z + 2, .inl (g.2.1, 227, .inl (fun _ => 0))) ∨ q = (z + 3, .inl (g.2.1, 24, .inl (upd (upd (upd (upd (upd (upd (upd (upd (upd (upd (upd (upd (upd (upd (upd (upd (upd (upd (upd (upd (fun _ => 0) 0 (-1 : Int32)) 1 (-1 : Int32)) 2 (-1 : Int32)) 3 (-1 : Int32)) 4 (-1 : Int32)) 5 (-1 : Int32)) 6 (-1 : Int32)) 7 (-1 : Int32)) 8 (-1 : Int32)) 9 (-1 : Int32)) 10 (-1 : Int32)) 11 (-1 : Int32)) 12 (-1 : Int32)) 13 (-1 : Int32)) 14 (-1 : Int32)) 15 (-1 : Int32)) 16 (-1 : Int32)) 17 (-1 : Int32)) 18 (-1 : Int32)) 19 (-1 : Int32)))) ∨ q = (z + 4, .inl (g.2.1, 6, .inl (fun _ => 0)))) q → q = (z + 3, .inl (g.2.1, 24, .inl (upd (upd (upd (upd (upd (upd (upd (upd (upd (upd (upd (upd (upd (upd (upd (upd (upd (upd (upd (upd (fun _ => 0) 0 (-1 : Int32)) 1 (-1 : Int32)) 2 (-1 : Int32)) 3 (-1 : Int32)) 4 (-1 : Int32)) 5 (-1 : Int32)) 6 (-1 : Int32)) 7 (-1 : Int32)) 8 (-1 : Int32)) 9 (-1 : Int32)) 10 (-1 : Int32)) 11 (-1 : Int32)) 12 (-1 : Int32)) 13 (-1 : Int32)) 14 (-1 : Int32)) 15 (-1 : Int32)) 16 (-1 : Int32)) 17 (-1 : Int32)) 18 (-1 : Int32)) 19 (-1 : Int32)))) ∨ ((fun q => q = (b, .inr (5, [.ref (z), .ref (z + 1), .ref (z + 2), .ref (z + 3), .int (-1 : Int32), .int 0, .int 0, .int 0, .ref (z + 4), .int 0])) ∨ q = (z, .inl (g.2.2.1, 99880, .inr (.inl (fun _ => 0)))) ∨ q = (z + 1, .inl (g.2.1, 227, .inl (fun _ => 0))) ∨ q = (z + 2, .inl (g.2.1, 227, .inl (fun _ => 0))) ∨ q = (z + 3, .inl (g.2.1, 24, .inl (upd (upd (upd (upd (upd (upd (upd (upd (upd (upd (upd (upd (upd (upd (upd (upd (upd (upd (upd (fun _ => 0) 0 (-1 : Int32)) 1 (-1 : Int32)) 2 (-1 : Int32)) 3 (-1 : Int32)) 4 (-1 : Int32)) 5 (-1 : Int32)) 6 (-1 : Int32)) 7 (-1 : Int32)) 8 (-1 : Int32)) 9 (-1 : Int32)) 10 (-1 : Int32)) 11 (-1 : Int32)) 12 (-1 : Int32)) 13 (-1 : Int32)) 14 (-1 : Int32)) 15 (-1 : Int32)) 16 (-1 : Int32)) 17 (-1 : Int32)) 18 (-1 : Int32)))) ∨ q = (z + 4, .inl (g.2.1, 6, .inl (fun _ => 0)))) q ∧ q.1 ≠ z + 3) := by
  rintro q (h | h | h | h | h | h)
  · exact Or.inr ⟨(Or.inl h), (by rw [h]; show (b : Nat) ≠ z + 3; omega)⟩
  · exact Or.inr ⟨(Or.inr (Or.inl h)), (by rw [h]; show (z : Nat) ≠ z + 3; omega)⟩
  · exact Or.inr ⟨(Or.inr (Or.inr (Or.inl h))), (by rw [h]; show (z + 1 : Nat) ≠ z + 3; omega)⟩
  · exact Or.inr ⟨(Or.inr (Or.inr (Or.inr (Or.inl h)))), (by rw [h]; show (z + 2 : Nat) ≠ z + 3; omega)⟩
  · exact Or.inl h
  · exact Or.inr ⟨(Or.inr (Or.inr (Or.inr (Or.inr (Or.inr h))))), (by rw [h]; show (z + 4 : Nat) ≠ z + 3; omega)⟩
theorem oX5_init_27 {g : mG} {b z : Nat} (hbz : b < z) : ∀ q : Nat × va_E, (fun q => q = (b, .inr (5, [.ref (z), .ref (z + 1), .ref (z + 2), .ref (z + 3), .int (-1 : Int32), .int 0, .int 0, .int 0, .ref (z + 4), .int 0])) ∨ q = (z, .inl (g.2.2.1, 99880, .inr (.inl (fun _ => 0)))) ∨ q = (z + 1, .inl (g.2.1, 227, .inl (fun _ => 0))) ∨ q = (z + 2, .inl (g.2.1, 227, .inl (fun _ => 0))) ∨ q = (z + 3, .inl (g.2.1, 24, .inl (upd (upd (upd (upd (upd (upd (upd (upd (upd (upd (upd (upd (upd (upd (upd (upd (upd (upd (upd (upd (upd (fun _ => 0) 0 (-1 : Int32)) 1 (-1 : Int32)) 2 (-1 : Int32)) 3 (-1 : Int32)) 4 (-1 : Int32)) 5 (-1 : Int32)) 6 (-1 : Int32)) 7 (-1 : Int32)) 8 (-1 : Int32)) 9 (-1 : Int32)) 10 (-1 : Int32)) 11 (-1 : Int32)) 12 (-1 : Int32)) 13 (-1 : Int32)) 14 (-1 : Int32)) 15 (-1 : Int32)) 16 (-1 : Int32)) 17 (-1 : Int32)) 18 (-1 : Int32)) 19 (-1 : Int32)) 20 (-1 : Int32)))) ∨ q = (z + 4, .inl (g.2.1, 6, .inl (fun _ => 0)))) q → q = (z + 3, .inl (g.2.1, 24, .inl (upd (upd (upd (upd (upd (upd (upd (upd (upd (upd (upd (upd (upd (upd (upd (upd (upd (upd (upd (upd (upd (fun _ => 0) 0 (-1 : Int32)) 1 (-1 : Int32)) 2 (-1 : Int32)) 3 (-1 : Int32)) 4 (-1 : Int32)) 5 (-1 : Int32)) 6 (-1 : Int32)) 7 (-1 : Int32)) 8 (-1 : Int32)) 9 (-1 : Int32)) 10 (-1 : Int32)) 11 (-1 : Int32)) 12 (-1 : Int32)) 13 (-1 : Int32)) 14 (-1 : Int32)) 15 (-1 : Int32)) 16 (-1 : Int32)) 17 (-1 : Int32)) 18 (-1 : Int32)) 19 (-1 : Int32)) 20 (-1 : Int32)))) ∨ ((fun q => q = (b, .inr (5, [.ref (z), .ref (z + 1), .ref (z + 2), .ref (z + 3), .int (-1 : Int32), .int 0, .int 0, .int 0, .ref (z + 4), .int 0])) ∨ q = (z, .inl (g.2.2.1, 99880, .inr (.inl (fun _ => 0)))) ∨ q = (z + 1, .inl (g.2.1, 227, .inl (fun _ => 0))) ∨ q = (z + 2, .inl (g.2.1, 227, .inl (fun _ => 0))) ∨ q = (z + 3, .inl (g.2.1, 24, .inl (upd (upd (upd (upd (upd (upd (upd (upd (upd (upd (upd (upd (upd (upd (upd (upd (upd (upd (upd (upd (fun _ => 0) 0 (-1 : Int32)) 1 (-1 : Int32)) 2 (-1 : Int32)) 3 (-1 : Int32)) 4 (-1 : Int32)) 5 (-1 : Int32)) 6 (-1 : Int32)) 7 (-1 : Int32)) 8 (-1 : Int32)) 9 (-1 : Int32)) 10 (-1 : Int32)) 11 (-1 : Int32)) 12 (-1 : Int32)) 13 (-1 : Int32)) 14 (-1 : Int32)) 15 (-1 : Int32)) 16 (-1 : Int32)) 17 (-1 : Int32)) 18 (-1 : Int32)) 19 (-1 : Int32)))) ∨ q = (z + 4, .inl (g.2.1, 6, .inl (fun _ => 0)))) q ∧ q.1 ≠ z + 3) := by
  rintro q (h | h | h | h | h | h)
  · exact Or.inr ⟨(Or.inl h), (by rw [h]; show (b : Nat) ≠ z + 3; omega)⟩
  · exact Or.inr ⟨(Or.inr (Or.inl h)), (by rw [h]; show (z : Nat) ≠ z + 3; omega)⟩
  · exact Or.inr ⟨(Or.inr (Or.inr (Or.inl h))), (by rw [h]; show (z + 1 : Nat) ≠ z + 3; omega)⟩
  · exact Or.inr ⟨(Or.inr (Or.inr (Or.inr (Or.inl h)))), (by rw [h]; show (z + 2 : Nat) ≠ z + 3; omega)⟩
  · exact Or.inl h
  · exact Or.inr ⟨(Or.inr (Or.inr (Or.inr (Or.inr (Or.inr h))))), (by rw [h]; show (z + 4 : Nat) ≠ z + 3; omega)⟩
theorem oX5_init_28 {g : mG} {b z : Nat} (hbz : b < z) : ∀ q : Nat × va_E, (fun q => q = (b, .inr (5, [.ref (z), .ref (z + 1), .ref (z + 2), .ref (z + 3), .int (-1 : Int32), .int 0, .int 0, .int 0, .ref (z + 4), .int 0])) ∨ q = (z, .inl (g.2.2.1, 99880, .inr (.inl (fun _ => 0)))) ∨ q = (z + 1, .inl (g.2.1, 227, .inl (fun _ => 0))) ∨ q = (z + 2, .inl (g.2.1, 227, .inl (fun _ => 0))) ∨ q = (z + 3, .inl (g.2.1, 24, .inl (upd (upd (upd (upd (upd (upd (upd (upd (upd (upd (upd (upd (upd (upd (upd (upd (upd (upd (upd (upd (upd (upd (fun _ => 0) 0 (-1 : Int32)) 1 (-1 : Int32)) 2 (-1 : Int32)) 3 (-1 : Int32)) 4 (-1 : Int32)) 5 (-1 : Int32)) 6 (-1 : Int32)) 7 (-1 : Int32)) 8 (-1 : Int32)) 9 (-1 : Int32)) 10 (-1 : Int32)) 11 (-1 : Int32)) 12 (-1 : Int32)) 13 (-1 : Int32)) 14 (-1 : Int32)) 15 (-1 : Int32)) 16 (-1 : Int32)) 17 (-1 : Int32)) 18 (-1 : Int32)) 19 (-1 : Int32)) 20 (-1 : Int32)) 21 (-1 : Int32)))) ∨ q = (z + 4, .inl (g.2.1, 6, .inl (fun _ => 0)))) q → q = (z + 3, .inl (g.2.1, 24, .inl (upd (upd (upd (upd (upd (upd (upd (upd (upd (upd (upd (upd (upd (upd (upd (upd (upd (upd (upd (upd (upd (upd (fun _ => 0) 0 (-1 : Int32)) 1 (-1 : Int32)) 2 (-1 : Int32)) 3 (-1 : Int32)) 4 (-1 : Int32)) 5 (-1 : Int32)) 6 (-1 : Int32)) 7 (-1 : Int32)) 8 (-1 : Int32)) 9 (-1 : Int32)) 10 (-1 : Int32)) 11 (-1 : Int32)) 12 (-1 : Int32)) 13 (-1 : Int32)) 14 (-1 : Int32)) 15 (-1 : Int32)) 16 (-1 : Int32)) 17 (-1 : Int32)) 18 (-1 : Int32)) 19 (-1 : Int32)) 20 (-1 : Int32)) 21 (-1 : Int32)))) ∨ ((fun q => q = (b, .inr (5, [.ref (z), .ref (z + 1), .ref (z + 2), .ref (z + 3), .int (-1 : Int32), .int 0, .int 0, .int 0, .ref (z + 4), .int 0])) ∨ q = (z, .inl (g.2.2.1, 99880, .inr (.inl (fun _ => 0)))) ∨ q = (z + 1, .inl (g.2.1, 227, .inl (fun _ => 0))) ∨ q = (z + 2, .inl (g.2.1, 227, .inl (fun _ => 0))) ∨ q = (z + 3, .inl (g.2.1, 24, .inl (upd (upd (upd (upd (upd (upd (upd (upd (upd (upd (upd (upd (upd (upd (upd (upd (upd (upd (upd (upd (upd (fun _ => 0) 0 (-1 : Int32)) 1 (-1 : Int32)) 2 (-1 : Int32)) 3 (-1 : Int32)) 4 (-1 : Int32)) 5 (-1 : Int32)) 6 (-1 : Int32)) 7 (-1 : Int32)) 8 (-1 : Int32)) 9 (-1 : Int32)) 10 (-1 : Int32)) 11 (-1 : Int32)) 12 (-1 : Int32)) 13 (-1 : Int32)) 14 (-1 : Int32)) 15 (-1 : Int32)) 16 (-1 : Int32)) 17 (-1 : Int32)) 18 (-1 : Int32)) 19 (-1 : Int32)) 20 (-1 : Int32)))) ∨ q = (z + 4, .inl (g.2.1, 6, .inl (fun _ => 0)))) q ∧ q.1 ≠ z + 3) := by
  rintro q (h | h | h | h | h | h)
  · exact Or.inr ⟨(Or.inl h), (by rw [h]; show (b : Nat) ≠ z + 3; omega)⟩
  · exact Or.inr ⟨(Or.inr (Or.inl h)), (by rw [h]; show (z : Nat) ≠ z + 3; omega)⟩
  · exact Or.inr ⟨(Or.inr (Or.inr (Or.inl h))), (by rw [h]; show (z + 1 : Nat) ≠ z + 3; omega)⟩
  · exact Or.inr ⟨(Or.inr (Or.inr (Or.inr (Or.inl h)))), (by rw [h]; show (z + 2 : Nat) ≠ z + 3; omega)⟩
  · exact Or.inl h
  · exact Or.inr ⟨(Or.inr (Or.inr (Or.inr (Or.inr (Or.inr h))))), (by rw [h]; show (z + 4 : Nat) ≠ z + 3; omega)⟩
theorem oX5_init_29 {g : mG} {b z : Nat} (hbz : b < z) : ∀ q : Nat × va_E, (fun q => q = (b, .inr (5, [.ref (z), .ref (z + 1), .ref (z + 2), .ref (z + 3), .int (-1 : Int32), .int 0, .int 0, .int 0, .ref (z + 4), .int 0])) ∨ q = (z, .inl (g.2.2.1, 99880, .inr (.inl (fun _ => 0)))) ∨ q = (z + 1, .inl (g.2.1, 227, .inl (fun _ => 0))) ∨ q = (z + 2, .inl (g.2.1, 227, .inl (fun _ => 0))) ∨ q = (z + 3, .inl (g.2.1, 24, .inl (upd (upd (upd (upd (upd (upd (upd (upd (upd (upd (upd (upd (upd (upd (upd (upd (upd (upd (upd (upd (upd (upd (upd (fun _ => 0) 0 (-1 : Int32)) 1 (-1 : Int32)) 2 (-1 : Int32)) 3 (-1 : Int32)) 4 (-1 : Int32)) 5 (-1 : Int32)) 6 (-1 : Int32)) 7 (-1 : Int32)) 8 (-1 : Int32)) 9 (-1 : Int32)) 10 (-1 : Int32)) 11 (-1 : Int32)) 12 (-1 : Int32)) 13 (-1 : Int32)) 14 (-1 : Int32)) 15 (-1 : Int32)) 16 (-1 : Int32)) 17 (-1 : Int32)) 18 (-1 : Int32)) 19 (-1 : Int32)) 20 (-1 : Int32)) 21 (-1 : Int32)) 22 (-1 : Int32)))) ∨ q = (z + 4, .inl (g.2.1, 6, .inl (fun _ => 0)))) q → q = (z + 3, .inl (g.2.1, 24, .inl (upd (upd (upd (upd (upd (upd (upd (upd (upd (upd (upd (upd (upd (upd (upd (upd (upd (upd (upd (upd (upd (upd (upd (fun _ => 0) 0 (-1 : Int32)) 1 (-1 : Int32)) 2 (-1 : Int32)) 3 (-1 : Int32)) 4 (-1 : Int32)) 5 (-1 : Int32)) 6 (-1 : Int32)) 7 (-1 : Int32)) 8 (-1 : Int32)) 9 (-1 : Int32)) 10 (-1 : Int32)) 11 (-1 : Int32)) 12 (-1 : Int32)) 13 (-1 : Int32)) 14 (-1 : Int32)) 15 (-1 : Int32)) 16 (-1 : Int32)) 17 (-1 : Int32)) 18 (-1 : Int32)) 19 (-1 : Int32)) 20 (-1 : Int32)) 21 (-1 : Int32)) 22 (-1 : Int32)))) ∨ ((fun q => q = (b, .inr (5, [.ref (z), .ref (z + 1), .ref (z + 2), .ref (z + 3), .int (-1 : Int32), .int 0, .int 0, .int 0, .ref (z + 4), .int 0])) ∨ q = (z, .inl (g.2.2.1, 99880, .inr (.inl (fun _ => 0)))) ∨ q = (z + 1, .inl (g.2.1, 227, .inl (fun _ => 0))) ∨ q = (z + 2, .inl (g.2.1, 227, .inl (fun _ => 0))) ∨ q = (z + 3, .inl (g.2.1, 24, .inl (upd (upd (upd (upd (upd (upd (upd (upd (upd (upd (upd (upd (upd (upd (upd (upd (upd (upd (upd (upd (upd (upd (fun _ => 0) 0 (-1 : Int32)) 1 (-1 : Int32)) 2 (-1 : Int32)) 3 (-1 : Int32)) 4 (-1 : Int32)) 5 (-1 : Int32)) 6 (-1 : Int32)) 7 (-1 : Int32)) 8 (-1 : Int32)) 9 (-1 : Int32)) 10 (-1 : Int32)) 11 (-1 : Int32)) 12 (-1 : Int32)) 13 (-1 : Int32)) 14 (-1 : Int32)) 15 (-1 : Int32)) 16 (-1 : Int32)) 17 (-1 : Int32)) 18 (-1 : Int32)) 19 (-1 : Int32)) 20 (-1 : Int32)) 21 (-1 : Int32)))) ∨ q = (z + 4, .inl (g.2.1, 6, .inl (fun _ => 0)))) q ∧ q.1 ≠ z + 3) := by
  rintro q (h | h | h | h | h | h)
  · exact Or.inr ⟨(Or.inl h), (by rw [h]; show (b : Nat) ≠ z + 3; omega)⟩
  · exact Or.inr ⟨(Or.inr (Or.inl h)), (by rw [h]; show (z : Nat) ≠ z + 3; omega)⟩
  · exact Or.inr ⟨(Or.inr (Or.inr (Or.inl h))), (by rw [h]; show (z + 1 : Nat) ≠ z + 3; omega)⟩
  · exact Or.inr ⟨(Or.inr (Or.inr (Or.inr (Or.inl h)))), (by rw [h]; show (z + 2 : Nat) ≠ z + 3; omega)⟩
  · exact Or.inl h
  · exact Or.inr ⟨(Or.inr (Or.inr (Or.inr (Or.inr (Or.inr h))))), (by rw [h]; show (z + 4 : Nat) ≠ z + 3; omega)⟩
theorem oX5_init_30 {g : mG} {b z : Nat} (hbz : b < z) : ∀ q : Nat × va_E, (fun q => q = (b, .inr (5, [.ref (z), .ref (z + 1), .ref (z + 2), .ref (z + 3), .int (-1 : Int32), .int 0, .int 0, .int 0, .ref (z + 4), .int 0])) ∨ q = (z, .inl (g.2.2.1, 99880, .inr (.inl (fun _ => 0)))) ∨ q = (z + 1, .inl (g.2.1, 227, .inl (fun _ => 0))) ∨ q = (z + 2, .inl (g.2.1, 227, .inl (fun _ => 0))) ∨ q = (z + 3, .inl (g.2.1, 24, .inl (upd (upd (upd (upd (upd (upd (upd (upd (upd (upd (upd (upd (upd (upd (upd (upd (upd (upd (upd (upd (upd (upd (upd (upd (fun _ => 0) 0 (-1 : Int32)) 1 (-1 : Int32)) 2 (-1 : Int32)) 3 (-1 : Int32)) 4 (-1 : Int32)) 5 (-1 : Int32)) 6 (-1 : Int32)) 7 (-1 : Int32)) 8 (-1 : Int32)) 9 (-1 : Int32)) 10 (-1 : Int32)) 11 (-1 : Int32)) 12 (-1 : Int32)) 13 (-1 : Int32)) 14 (-1 : Int32)) 15 (-1 : Int32)) 16 (-1 : Int32)) 17 (-1 : Int32)) 18 (-1 : Int32)) 19 (-1 : Int32)) 20 (-1 : Int32)) 21 (-1 : Int32)) 22 (-1 : Int32)) 23 (-1 : Int32)))) ∨ q = (z + 4, .inl (g.2.1, 6, .inl (fun _ => 0)))) q → q = (z + 3, .inl (g.2.1, 24, .inl (upd (upd (upd (upd (upd (upd (upd (upd (upd (upd (upd (upd (upd (upd (upd (upd (upd (upd (upd (upd (upd (upd (upd (upd (fun _ => 0) 0 (-1 : Int32)) 1 (-1 : Int32)) 2 (-1 : Int32)) 3 (-1 : Int32)) 4 (-1 : Int32)) 5 (-1 : Int32)) 6 (-1 : Int32)) 7 (-1 : Int32)) 8 (-1 : Int32)) 9 (-1 : Int32)) 10 (-1 : Int32)) 11 (-1 : Int32)) 12 (-1 : Int32)) 13 (-1 : Int32)) 14 (-1 : Int32)) 15 (-1 : Int32)) 16 (-1 : Int32)) 17 (-1 : Int32)) 18 (-1 : Int32)) 19 (-1 : Int32)) 20 (-1 : Int32)) 21 (-1 : Int32)) 22 (-1 : Int32)) 23 (-1 : Int32)))) ∨ ((fun q => q = (b, .inr (5, [.ref (z), .ref (z + 1), .ref (z + 2), .ref (z + 3), .int (-1 : Int32), .int 0, .int 0, .int 0, .ref (z + 4), .int 0])) ∨ q = (z, .inl (g.2.2.1, 99880, .inr (.inl (fun _ => 0)))) ∨ q = (z + 1, .inl (g.2.1, 227, .inl (fun _ => 0))) ∨ q = (z + 2, .inl (g.2.1, 227, .inl (fun _ => 0))) ∨ q = (z + 3, .inl (g.2.1, 24, .inl (upd (upd (upd (upd (upd (upd (upd (upd (upd (upd (upd (upd (upd (upd (upd (upd (upd (upd (upd (upd (upd (upd (upd (fun _ => 0) 0 (-1 : Int32)) 1 (-1 : Int32)) 2 (-1 : Int32)) 3 (-1 : Int32)) 4 (-1 : Int32)) 5 (-1 : Int32)) 6 (-1 : Int32)) 7 (-1 : Int32)) 8 (-1 : Int32)) 9 (-1 : Int32)) 10 (-1 : Int32)) 11 (-1 : Int32)) 12 (-1 : Int32)) 13 (-1 : Int32)) 14 (-1 : Int32)) 15 (-1 : Int32)) 16 (-1 : Int32)) 17 (-1 : Int32)) 18 (-1 : Int32)) 19 (-1 : Int32)) 20 (-1 : Int32)) 21 (-1 : Int32)) 22 (-1 : Int32)))) ∨ q = (z + 4, .inl (g.2.1, 6, .inl (fun _ => 0)))) q ∧ q.1 ≠ z + 3) := by
  rintro q (h | h | h | h | h | h)
  · exact Or.inr ⟨(Or.inl h), (by rw [h]; show (b : Nat) ≠ z + 3; omega)⟩
  · exact Or.inr ⟨(Or.inr (Or.inl h)), (by rw [h]; show (z : Nat) ≠ z + 3; omega)⟩
  · exact Or.inr ⟨(Or.inr (Or.inr (Or.inl h))), (by rw [h]; show (z + 1 : Nat) ≠ z + 3; omega)⟩
  · exact Or.inr ⟨(Or.inr (Or.inr (Or.inr (Or.inl h)))), (by rw [h]; show (z + 2 : Nat) ≠ z + 3; omega)⟩
  · exact Or.inl h
  · exact Or.inr ⟨(Or.inr (Or.inr (Or.inr (Or.inr (Or.inr h))))), (by rw [h]; show (z + 4 : Nat) ≠ z + 3; omega)⟩
def mT (g : mG) (b z : Nat) : Nat × va_E → Prop := fun q => q = (b, .inr (5, [.ref (z), .ref (z + 1), .ref (z + 2), .ref (z + 3), .int (-1 : Int32), .int 0, .int 0, .int 0, .ref (z + 4), .int 0])) ∨ q = (z, .inl (g.2.2.1, 99880, .inr (.inl (fun _ => 0)))) ∨ q = (z + 1, .inl (g.2.1, 227, .inl (fun _ => 0))) ∨ q = (z + 2, .inl (g.2.1, 227, .inl (fun _ => 0))) ∨ q = (z + 3, .inl (g.2.1, 24, .inl (upd (upd (upd (upd (upd (upd (upd (upd (upd (upd (upd (upd (upd (upd (upd (upd (upd (upd (upd (upd (upd (upd (upd (upd (fun _ => 0) 0 (-1 : Int32)) 1 (-1 : Int32)) 2 (-1 : Int32)) 3 (-1 : Int32)) 4 (-1 : Int32)) 5 (-1 : Int32)) 6 (-1 : Int32)) 7 (-1 : Int32)) 8 (-1 : Int32)) 9 (-1 : Int32)) 10 (-1 : Int32)) 11 (-1 : Int32)) 12 (-1 : Int32)) 13 (-1 : Int32)) 14 (-1 : Int32)) 15 (-1 : Int32)) 16 (-1 : Int32)) 17 (-1 : Int32)) 18 (-1 : Int32)) 19 (-1 : Int32)) 20 (-1 : Int32)) 21 (-1 : Int32)) 22 (-1 : Int32)) 23 (-1 : Int32)))) ∨ q = (z + 4, .inl (g.2.1, 6, .inl (fun _ => 0)))
theorem mT_in {g : mG} {b z : Nat} {q : Nat × va_E} (h : mT g b z q) : q.1 = b ∨ (z ≤ q.1 ∧ q.1 < z + 5) := by
  rcases h with h | h | h | h | h | h
  · rw [h]; show (b : Nat) = b ∨ (z ≤ b ∧ b < z + 5); omega
  · rw [h]; show (z : Nat) = b ∨ (z ≤ z ∧ z < z + 5); omega
  · rw [h]; show (z + 1 : Nat) = b ∨ (z ≤ z + 1 ∧ z + 1 < z + 5); omega
  · rw [h]; show (z + 2 : Nat) = b ∨ (z ≤ z + 2 ∧ z + 2 < z + 5); omega
  · rw [h]; show (z + 3 : Nat) = b ∨ (z ≤ z + 3 ∧ z + 3 < z + 5); omega
  · rw [h]; show (z + 4 : Nat) = b ∨ (z ≤ z + 4 ∧ z + 4 < z + 5); omega
abbrev rm_X5_init : Room := { frames := 1, cells := 5, slots := 100364, locals := 24 }
set_option maxRecDepth 100000 in
set_option maxHeartbeats 4000000 in
theorem kX5_init {l : Launch} {D : va_G} {g : mG} {b z : Nat} (hbz : b < z) : Met l yX5_init (Cond.code yX5_init cX5_init 2 none :: wsA) rm_X5_init (nPc D g z (fun q => q = (b, .inr (5, [.null, .null, .null, .null, .int 0, .int 0, .int 0, .int 0, .null, .int 0]))) [.ref b]) (nQc D b z (z + 5) (mT g b z)) 5 100364 (fA b z) := by
  refine n_met (by decide +kernel) rfl (Nat.le_of_ble_eq_true rfl) ?_
  intro p e s m below meth c Y hk2 hin hr hz hw ls hl
  have hx := Y.1
  have hb := Y.2.1
  have hml := Y.2.2.1
  have hown := Y.2.2.2.1
  have hts := Y.2.2.2.2.1
  have hS : va_S (fA b z) s.heap s.heap [] := va_S.rf
  refine lv_aload_n hx hb dX5_init_0 rfl (lv_at hl 0 rfl) ?_
  refine n_obj Y hl.1 mw_74 (Nat.le_of_ble_eq_true rfl) (Nat.le_of_ble_eq_true rfl) (Nat.le_of_ble_eq_true rfl) dX5_init_1 ?_
  refine lv_aload_n hx hb dX5_init_4 rfl (lv_at hl 0 rfl) ?_
  refine lv_ldc (v := (99880 : Int32)) hx hb hown (hts _ mw_75) dX5_init_5 ?_
  refine n_newa (a0 := (99880, .inr (.inl (fun _ => 0)))) (N := 99880) (T' := fun q => q = (b, .inr (5, [.null, .null, .null, .null, .int 0, .int 0, .int 0, .int 0, .null, .int 0])) ∨ q = (z, .inl (g.2.2.1, 99880, .inr (.inl (fun _ => 0))))) Y hz hw hS (ty := .long) rfl mw_76 1 rfl (fun h => h) (fun _ => rfl) (by decide) rfl (by decide) (Nat.le_of_ble_eq_true rfl) (Nat.le_of_ble_eq_true rfl) ?_ dX5_init_7 (fun H hw hz hS => ?_)
  · rintro q (h | h)
    · exact Or.inr h
    · exact Or.inl h
  replace hz : H.size = z + 1 := hz
  refine W.widen (k := 1) (n := 99880) (Nat.le_of_ble_eq_true rfl) (Nat.le_of_ble_eq_true rfl) ?_
  refine n_putF (T' := fun q => q = (b, .inr (5, [.ref (z), .null, .null, .null, .int 0, .int 0, .int 0, .int 0, .null, .int 0])) ∨ q = (z, .inl (g.2.2.1, 99880, .inr (.inl (fun _ => 0))))) Y hin hw hS (Or.inl rfl) (Or.inl rfl) rfl inA_X5 tyX5 tyX5_ok nmX5 0 (by decide) mw_77 rfl rfl rfl rfl (Nat.le_of_ble_eq_true rfl) (oX5_init_1 hbz) dX5_init_9 (fun H locs hw hz2 hS => ?_)
  replace hz := hz2.trans hz
  clear hz2
  refine lv_aload_n hx hb dX5_init_12 rfl (lv_at hl 0 rfl) ?_
  refine lv_sipush (v := (227 : Int32)) hx hb dX5_init_13 (by decide) ?_
  refine n_newa (a0 := (227, .inl (fun _ => 0))) (N := 227) (T' := fun q => q = (b, .inr (5, [.ref (z), .null, .null, .null, .int 0, .int 0, .int 0, .int 0, .null, .int 0])) ∨ q = (z, .inl (g.2.2.1, 99880, .inr (.inl (fun _ => 0)))) ∨ q = (z + 1, .inl (g.2.1, 227, .inl (fun _ => 0)))) Y hz hw hS (ty := .int) rfl mw_35 0 rfl (fun h => h) (fun _ => rfl) (by decide) rfl (by decide) (Nat.le_of_ble_eq_true rfl) (Nat.le_of_ble_eq_true rfl) ?_ dX5_init_16 (fun H hw hz hS => ?_)
  · rintro q (h | h | h)
    · exact Or.inr (Or.inl h)
    · exact Or.inr (Or.inr h)
    · exact Or.inl h
  replace hz : H.size = z + 2 := hz
  refine W.widen (k := 2) (n := 100107) (Nat.le_of_ble_eq_true rfl) (Nat.le_of_ble_eq_true rfl) ?_
  refine n_putF (T' := fun q => q = (b, .inr (5, [.ref (z), .ref (z + 1), .null, .null, .int 0, .int 0, .int 0, .int 0, .null, .int 0])) ∨ q = (z, .inl (g.2.2.1, 99880, .inr (.inl (fun _ => 0)))) ∨ q = (z + 1, .inl (g.2.1, 227, .inl (fun _ => 0)))) Y hin hw hS (Or.inl rfl) (Or.inl rfl) rfl inA_X5 tyX5 tyX5_ok nmX5 1 (by decide) mw_78 rfl rfl rfl rfl (Nat.le_of_ble_eq_true rfl) (oX5_init_2 hbz) dX5_init_18 (fun H locs hw hz2 hS => ?_)
  replace hz := hz2.trans hz
  clear hz2
  refine lv_aload_n hx hb dX5_init_21 rfl (lv_at hl 0 rfl) ?_
  refine lv_sipush (v := (227 : Int32)) hx hb dX5_init_22 (by decide) ?_
  refine n_newa (a0 := (227, .inl (fun _ => 0))) (N := 227) (T' := fun q => q = (b, .inr (5, [.ref (z), .ref (z + 1), .null, .null, .int 0, .int 0, .int 0, .int 0, .null, .int 0])) ∨ q = (z, .inl (g.2.2.1, 99880, .inr (.inl (fun _ => 0)))) ∨ q = (z + 1, .inl (g.2.1, 227, .inl (fun _ => 0))) ∨ q = (z + 2, .inl (g.2.1, 227, .inl (fun _ => 0)))) Y hz hw hS (ty := .int) rfl mw_35 0 rfl (fun h => h) (fun _ => rfl) (by decide) rfl (by decide) (Nat.le_of_ble_eq_true rfl) (Nat.le_of_ble_eq_true rfl) ?_ dX5_init_25 (fun H hw hz hS => ?_)
  · rintro q (h | h | h | h)
    · exact Or.inr (Or.inl h)
    · exact Or.inr (Or.inr (Or.inl h))
    · exact Or.inr (Or.inr (Or.inr h))
    · exact Or.inl h
  replace hz : H.size = z + 3 := hz
  refine W.widen (k := 3) (n := 100334) (Nat.le_of_ble_eq_true rfl) (Nat.le_of_ble_eq_true rfl) ?_
  refine n_putF (T' := fun q => q = (b, .inr (5, [.ref (z), .ref (z + 1), .ref (z + 2), .null, .int 0, .int 0, .int 0, .int 0, .null, .int 0])) ∨ q = (z, .inl (g.2.2.1, 99880, .inr (.inl (fun _ => 0)))) ∨ q = (z + 1, .inl (g.2.1, 227, .inl (fun _ => 0))) ∨ q = (z + 2, .inl (g.2.1, 227, .inl (fun _ => 0)))) Y hin hw hS (Or.inl rfl) (Or.inl rfl) rfl inA_X5 tyX5 tyX5_ok nmX5 2 (by decide) mw_79 rfl rfl rfl rfl (Nat.le_of_ble_eq_true rfl) (oX5_init_3 hbz) dX5_init_27 (fun H locs hw hz2 hS => ?_)
  replace hz := hz2.trans hz
  clear hz2
  refine lv_aload_n hx hb dX5_init_30 rfl (lv_at hl 0 rfl) ?_
  refine lv_bipush (v := (24 : Int32)) hx hb dX5_init_31 (by decide) ?_
  refine n_newa (a0 := (24, .inl (fun _ => 0))) (N := 24) (T' := fun q => q = (b, .inr (5, [.ref (z), .ref (z + 1), .ref (z + 2), .null, .int 0, .int 0, .int 0, .int 0, .null, .int 0])) ∨ q = (z, .inl (g.2.2.1, 99880, .inr (.inl (fun _ => 0)))) ∨ q = (z + 1, .inl (g.2.1, 227, .inl (fun _ => 0))) ∨ q = (z + 2, .inl (g.2.1, 227, .inl (fun _ => 0))) ∨ q = (z + 3, .inl (g.2.1, 24, .inl (fun _ => 0)))) Y hz hw hS (ty := .int) rfl mw_35 0 rfl (fun h => h) (fun _ => rfl) (by decide) rfl (by decide) (Nat.le_of_ble_eq_true rfl) (Nat.le_of_ble_eq_true rfl) ?_ dX5_init_33 (fun H hw hz hS => ?_)
  · rintro q (h | h | h | h | h)
    · exact Or.inr (Or.inl h)
    · exact Or.inr (Or.inr (Or.inl h))
    · exact Or.inr (Or.inr (Or.inr (Or.inl h)))
    · exact Or.inr (Or.inr (Or.inr (Or.inr h)))
    · exact Or.inl h
  replace hz : H.size = z + 4 := hz
  refine W.widen (k := 4) (n := 100358) (Nat.le_of_ble_eq_true rfl) (Nat.le_of_ble_eq_true rfl) ?_
  refine n_putF (T' := fun q => q = (b, .inr (5, [.ref (z), .ref (z + 1), .ref (z + 2), .ref (z + 3), .int 0, .int 0, .int 0, .int 0, .null, .int 0])) ∨ q = (z, .inl (g.2.2.1, 99880, .inr (.inl (fun _ => 0)))) ∨ q = (z + 1, .inl (g.2.1, 227, .inl (fun _ => 0))) ∨ q = (z + 2, .inl (g.2.1, 227, .inl (fun _ => 0))) ∨ q = (z + 3, .inl (g.2.1, 24, .inl (fun _ => 0)))) Y hin hw hS (Or.inl rfl) (Or.inl rfl) rfl inA_X5 tyX5 tyX5_ok nmX5 3 (by decide) mw_80 rfl rfl rfl rfl (Nat.le_of_ble_eq_true rfl) (oX5_init_4 hbz) dX5_init_35 (fun H locs hw hz2 hS => ?_)
  replace hz := hz2.trans hz
  clear hz2
  refine lv_aload_n hx hb dX5_init_38 rfl (lv_at hl 0 rfl) ?_
  refine lv_iconst (v := (-1 : Int32)) hx hb dX5_init_39 (by decide) ?_
  refine n_put (T' := fun q => q = (b, .inr (5, [.ref (z), .ref (z + 1), .ref (z + 2), .ref (z + 3), .int (-1 : Int32), .int 0, .int 0, .int 0, .null, .int 0])) ∨ q = (z, .inl (g.2.2.1, 99880, .inr (.inl (fun _ => 0)))) ∨ q = (z + 1, .inl (g.2.1, 227, .inl (fun _ => 0))) ∨ q = (z + 2, .inl (g.2.1, 227, .inl (fun _ => 0))) ∨ q = (z + 3, .inl (g.2.1, 24, .inl (fun _ => 0)))) Y hw hS (Or.inl rfl) (Or.inl rfl) rfl inA_X5 tyX5 tyX5_ok nmX5 4 (by decide) mw_81 rfl rfl rfl (Nat.le_of_ble_eq_true rfl) (oX5_init_5 hbz) dX5_init_40 (fun H locs hw hz2 hS => ?_)
  replace hz := hz2.trans hz
  clear hz2
  refine lv_aload_n hx hb dX5_init_43 rfl (lv_at hl 0 rfl) ?_
  refine lv_bipush (v := (6 : Int32)) hx hb dX5_init_44 (by decide) ?_
  refine n_newa (a0 := (6, .inl (fun _ => 0))) (N := 6) (T' := fun q => q = (b, .inr (5, [.ref (z), .ref (z + 1), .ref (z + 2), .ref (z + 3), .int (-1 : Int32), .int 0, .int 0, .int 0, .null, .int 0])) ∨ q = (z, .inl (g.2.2.1, 99880, .inr (.inl (fun _ => 0)))) ∨ q = (z + 1, .inl (g.2.1, 227, .inl (fun _ => 0))) ∨ q = (z + 2, .inl (g.2.1, 227, .inl (fun _ => 0))) ∨ q = (z + 3, .inl (g.2.1, 24, .inl (fun _ => 0))) ∨ q = (z + 4, .inl (g.2.1, 6, .inl (fun _ => 0)))) Y hz hw hS (ty := .int) rfl mw_35 0 rfl (fun h => h) (fun _ => rfl) (by decide) rfl (by decide) (Nat.le_of_ble_eq_true rfl) (Nat.le_of_ble_eq_true rfl) ?_ dX5_init_46 (fun H hw hz hS => ?_)
  · rintro q (h | h | h | h | h | h)
    · exact Or.inr (Or.inl h)
    · exact Or.inr (Or.inr (Or.inl h))
    · exact Or.inr (Or.inr (Or.inr (Or.inl h)))
    · exact Or.inr (Or.inr (Or.inr (Or.inr (Or.inl h))))
    · exact Or.inr (Or.inr (Or.inr (Or.inr (Or.inr h))))
    · exact Or.inl h
  replace hz : H.size = z + 5 := hz
  refine W.widen (k := 5) (n := 100364) (Nat.le_of_ble_eq_true rfl) (Nat.le_of_ble_eq_true rfl) ?_
  refine n_putF (T' := fun q => q = (b, .inr (5, [.ref (z), .ref (z + 1), .ref (z + 2), .ref (z + 3), .int (-1 : Int32), .int 0, .int 0, .int 0, .ref (z + 4), .int 0])) ∨ q = (z, .inl (g.2.2.1, 99880, .inr (.inl (fun _ => 0)))) ∨ q = (z + 1, .inl (g.2.1, 227, .inl (fun _ => 0))) ∨ q = (z + 2, .inl (g.2.1, 227, .inl (fun _ => 0))) ∨ q = (z + 3, .inl (g.2.1, 24, .inl (fun _ => 0))) ∨ q = (z + 4, .inl (g.2.1, 6, .inl (fun _ => 0)))) Y hin hw hS (Or.inl rfl) (Or.inl rfl) rfl inA_X5 tyX5 tyX5_ok nmX5 8 (by decide) mw_82 rfl rfl rfl rfl (Nat.le_of_ble_eq_true rfl) (oX5_init_6 hbz) dX5_init_48 (fun H locs hw hz2 hS => ?_)
  replace hz := hz2.trans hz
  clear hz2
  refine lv_iconst (v := (0 : Int32)) hx hb dX5_init_51 (by decide) ?_
  refine lv_istore_n (lv' := [(1, .int (0 : Int32)), (0, .ref b)]) hx hb dX5_init_52 rfl hl (by decide) rfl (fun ls hl => ?_)
  refine lv_iload_n hx hb dX5_init_53 rfl (lv_at hl 0 rfl) ?_
  refine lv_bipush (v := (24 : Int32)) hx hb dX5_init_54 (by decide) ?_
  refine lv_icmp_ge (tgt := 72) hx hb dX5_init_56 (by decide) (fun hc => ?_) (fun hc => ?_)
  · exact absurd hc (by decide)
  clear hc
  refine lv_aload_n hx hb dX5_init_59 rfl (lv_at hl 1 rfl) ?_
  refine n_get (v := .ref (z + 3)) Y hw (Or.inl rfl) rfl inA_X5 3 (by decide) mw_80 rfl dX5_init_60 ?_
  refine lv_iload_n hx hb dX5_init_63 rfl (lv_at hl 0 rfl) ?_
  refine lv_iconst (v := (-1 : Int32)) hx hb dX5_init_64 (by decide) ?_
  refine n_iast (T' := fun q => q = (b, .inr (5, [.ref (z), .ref (z + 1), .ref (z + 2), .ref (z + 3), .int (-1 : Int32), .int 0, .int 0, .int 0, .ref (z + 4), .int 0])) ∨ q = (z, .inl (g.2.2.1, 99880, .inr (.inl (fun _ => 0)))) ∨ q = (z + 1, .inl (g.2.1, 227, .inl (fun _ => 0))) ∨ q = (z + 2, .inl (g.2.1, 227, .inl (fun _ => 0))) ∨ q = (z + 3, .inl (g.2.1, 24, .inl (upd (fun _ => 0) 0 (-1 : Int32)))) ∨ q = (z + 4, .inl (g.2.1, 6, .inl (fun _ => 0)))) Y hw hS (Or.inr (Nat.le_add_right z _)) (Or.inr (Or.inr (Or.inr (Or.inr (Or.inl rfl))))) 0 rfl (by unfold vp_in; decide) (oX5_init_7 hbz) dX5_init_65 (fun H locs hw hz2 hS => ?_)
  replace hz := hz2.trans hz
  clear hz2
  refine lv_iinc (v := (1 : Int32)) (lv' := [(1, .int (1 : Int32)), (0, .ref b)]) hx hb dX5_init_66 hl (k := 0) rfl (by decide) (by decide) rfl (fun ls hl => ?_)
  refine lv_goto (tgt := 53) hx hb dX5_init_69 (by decide) ?_
  refine lv_iload_n hx hb dX5_init_53 rfl (lv_at hl 0 rfl) ?_
  refine lv_bipush (v := (24 : Int32)) hx hb dX5_init_54 (by decide) ?_
  refine lv_icmp_ge (tgt := 72) hx hb dX5_init_56 (by decide) (fun hc => ?_) (fun hc => ?_)
  · exact absurd hc (by decide)
  clear hc
  refine lv_aload_n hx hb dX5_init_59 rfl (lv_at hl 1 rfl) ?_
  refine n_get (v := .ref (z + 3)) Y hw (Or.inl rfl) rfl inA_X5 3 (by decide) mw_80 rfl dX5_init_60 ?_
  refine lv_iload_n hx hb dX5_init_63 rfl (lv_at hl 0 rfl) ?_
  refine lv_iconst (v := (-1 : Int32)) hx hb dX5_init_64 (by decide) ?_
  refine n_iast (T' := fun q => q = (b, .inr (5, [.ref (z), .ref (z + 1), .ref (z + 2), .ref (z + 3), .int (-1 : Int32), .int 0, .int 0, .int 0, .ref (z + 4), .int 0])) ∨ q = (z, .inl (g.2.2.1, 99880, .inr (.inl (fun _ => 0)))) ∨ q = (z + 1, .inl (g.2.1, 227, .inl (fun _ => 0))) ∨ q = (z + 2, .inl (g.2.1, 227, .inl (fun _ => 0))) ∨ q = (z + 3, .inl (g.2.1, 24, .inl (upd (upd (fun _ => 0) 0 (-1 : Int32)) 1 (-1 : Int32)))) ∨ q = (z + 4, .inl (g.2.1, 6, .inl (fun _ => 0)))) Y hw hS (Or.inr (Nat.le_add_right z _)) (Or.inr (Or.inr (Or.inr (Or.inr (Or.inl rfl))))) 0 rfl (by unfold vp_in; decide) (oX5_init_8 hbz) dX5_init_65 (fun H locs hw hz2 hS => ?_)
  replace hz := hz2.trans hz
  clear hz2
  refine lv_iinc (v := (2 : Int32)) (lv' := [(1, .int (2 : Int32)), (0, .ref b)]) hx hb dX5_init_66 hl (k := 0) rfl (by decide) (by decide) rfl (fun ls hl => ?_)
  refine lv_goto (tgt := 53) hx hb dX5_init_69 (by decide) ?_
  refine lv_iload_n hx hb dX5_init_53 rfl (lv_at hl 0 rfl) ?_
  refine lv_bipush (v := (24 : Int32)) hx hb dX5_init_54 (by decide) ?_
  refine lv_icmp_ge (tgt := 72) hx hb dX5_init_56 (by decide) (fun hc => ?_) (fun hc => ?_)
  · exact absurd hc (by decide)
  clear hc
  refine lv_aload_n hx hb dX5_init_59 rfl (lv_at hl 1 rfl) ?_
  refine n_get (v := .ref (z + 3)) Y hw (Or.inl rfl) rfl inA_X5 3 (by decide) mw_80 rfl dX5_init_60 ?_
  refine lv_iload_n hx hb dX5_init_63 rfl (lv_at hl 0 rfl) ?_
  refine lv_iconst (v := (-1 : Int32)) hx hb dX5_init_64 (by decide) ?_
  refine n_iast (T' := fun q => q = (b, .inr (5, [.ref (z), .ref (z + 1), .ref (z + 2), .ref (z + 3), .int (-1 : Int32), .int 0, .int 0, .int 0, .ref (z + 4), .int 0])) ∨ q = (z, .inl (g.2.2.1, 99880, .inr (.inl (fun _ => 0)))) ∨ q = (z + 1, .inl (g.2.1, 227, .inl (fun _ => 0))) ∨ q = (z + 2, .inl (g.2.1, 227, .inl (fun _ => 0))) ∨ q = (z + 3, .inl (g.2.1, 24, .inl (upd (upd (upd (fun _ => 0) 0 (-1 : Int32)) 1 (-1 : Int32)) 2 (-1 : Int32)))) ∨ q = (z + 4, .inl (g.2.1, 6, .inl (fun _ => 0)))) Y hw hS (Or.inr (Nat.le_add_right z _)) (Or.inr (Or.inr (Or.inr (Or.inr (Or.inl rfl))))) 0 rfl (by unfold vp_in; decide) (oX5_init_9 hbz) dX5_init_65 (fun H locs hw hz2 hS => ?_)
  replace hz := hz2.trans hz
  clear hz2
  refine lv_iinc (v := (3 : Int32)) (lv' := [(1, .int (3 : Int32)), (0, .ref b)]) hx hb dX5_init_66 hl (k := 0) rfl (by decide) (by decide) rfl (fun ls hl => ?_)
  refine lv_goto (tgt := 53) hx hb dX5_init_69 (by decide) ?_
  refine lv_iload_n hx hb dX5_init_53 rfl (lv_at hl 0 rfl) ?_
  refine lv_bipush (v := (24 : Int32)) hx hb dX5_init_54 (by decide) ?_
  refine lv_icmp_ge (tgt := 72) hx hb dX5_init_56 (by decide) (fun hc => ?_) (fun hc => ?_)
  · exact absurd hc (by decide)
  clear hc
  refine lv_aload_n hx hb dX5_init_59 rfl (lv_at hl 1 rfl) ?_
  refine n_get (v := .ref (z + 3)) Y hw (Or.inl rfl) rfl inA_X5 3 (by decide) mw_80 rfl dX5_init_60 ?_
  refine lv_iload_n hx hb dX5_init_63 rfl (lv_at hl 0 rfl) ?_
  refine lv_iconst (v := (-1 : Int32)) hx hb dX5_init_64 (by decide) ?_
  refine n_iast (T' := fun q => q = (b, .inr (5, [.ref (z), .ref (z + 1), .ref (z + 2), .ref (z + 3), .int (-1 : Int32), .int 0, .int 0, .int 0, .ref (z + 4), .int 0])) ∨ q = (z, .inl (g.2.2.1, 99880, .inr (.inl (fun _ => 0)))) ∨ q = (z + 1, .inl (g.2.1, 227, .inl (fun _ => 0))) ∨ q = (z + 2, .inl (g.2.1, 227, .inl (fun _ => 0))) ∨ q = (z + 3, .inl (g.2.1, 24, .inl (upd (upd (upd (upd (fun _ => 0) 0 (-1 : Int32)) 1 (-1 : Int32)) 2 (-1 : Int32)) 3 (-1 : Int32)))) ∨ q = (z + 4, .inl (g.2.1, 6, .inl (fun _ => 0)))) Y hw hS (Or.inr (Nat.le_add_right z _)) (Or.inr (Or.inr (Or.inr (Or.inr (Or.inl rfl))))) 0 rfl (by unfold vp_in; decide) (oX5_init_10 hbz) dX5_init_65 (fun H locs hw hz2 hS => ?_)
  replace hz := hz2.trans hz
  clear hz2
  refine lv_iinc (v := (4 : Int32)) (lv' := [(1, .int (4 : Int32)), (0, .ref b)]) hx hb dX5_init_66 hl (k := 0) rfl (by decide) (by decide) rfl (fun ls hl => ?_)
  refine lv_goto (tgt := 53) hx hb dX5_init_69 (by decide) ?_
  refine lv_iload_n hx hb dX5_init_53 rfl (lv_at hl 0 rfl) ?_
  refine lv_bipush (v := (24 : Int32)) hx hb dX5_init_54 (by decide) ?_
  refine lv_icmp_ge (tgt := 72) hx hb dX5_init_56 (by decide) (fun hc => ?_) (fun hc => ?_)
  · exact absurd hc (by decide)
  clear hc
  refine lv_aload_n hx hb dX5_init_59 rfl (lv_at hl 1 rfl) ?_
  refine n_get (v := .ref (z + 3)) Y hw (Or.inl rfl) rfl inA_X5 3 (by decide) mw_80 rfl dX5_init_60 ?_
  refine lv_iload_n hx hb dX5_init_63 rfl (lv_at hl 0 rfl) ?_
  refine lv_iconst (v := (-1 : Int32)) hx hb dX5_init_64 (by decide) ?_
  refine n_iast (T' := fun q => q = (b, .inr (5, [.ref (z), .ref (z + 1), .ref (z + 2), .ref (z + 3), .int (-1 : Int32), .int 0, .int 0, .int 0, .ref (z + 4), .int 0])) ∨ q = (z, .inl (g.2.2.1, 99880, .inr (.inl (fun _ => 0)))) ∨ q = (z + 1, .inl (g.2.1, 227, .inl (fun _ => 0))) ∨ q = (z + 2, .inl (g.2.1, 227, .inl (fun _ => 0))) ∨ q = (z + 3, .inl (g.2.1, 24, .inl (upd (upd (upd (upd (upd (fun _ => 0) 0 (-1 : Int32)) 1 (-1 : Int32)) 2 (-1 : Int32)) 3 (-1 : Int32)) 4 (-1 : Int32)))) ∨ q = (z + 4, .inl (g.2.1, 6, .inl (fun _ => 0)))) Y hw hS (Or.inr (Nat.le_add_right z _)) (Or.inr (Or.inr (Or.inr (Or.inr (Or.inl rfl))))) 0 rfl (by unfold vp_in; decide) (oX5_init_11 hbz) dX5_init_65 (fun H locs hw hz2 hS => ?_)
  replace hz := hz2.trans hz
  clear hz2
  refine lv_iinc (v := (5 : Int32)) (lv' := [(1, .int (5 : Int32)), (0, .ref b)]) hx hb dX5_init_66 hl (k := 0) rfl (by decide) (by decide) rfl (fun ls hl => ?_)
  refine lv_goto (tgt := 53) hx hb dX5_init_69 (by decide) ?_
  refine lv_iload_n hx hb dX5_init_53 rfl (lv_at hl 0 rfl) ?_
  refine lv_bipush (v := (24 : Int32)) hx hb dX5_init_54 (by decide) ?_
  refine lv_icmp_ge (tgt := 72) hx hb dX5_init_56 (by decide) (fun hc => ?_) (fun hc => ?_)
  · exact absurd hc (by decide)
  clear hc
  refine lv_aload_n hx hb dX5_init_59 rfl (lv_at hl 1 rfl) ?_
  refine n_get (v := .ref (z + 3)) Y hw (Or.inl rfl) rfl inA_X5 3 (by decide) mw_80 rfl dX5_init_60 ?_
  refine lv_iload_n hx hb dX5_init_63 rfl (lv_at hl 0 rfl) ?_
  refine lv_iconst (v := (-1 : Int32)) hx hb dX5_init_64 (by decide) ?_
  refine n_iast (T' := fun q => q = (b, .inr (5, [.ref (z), .ref (z + 1), .ref (z + 2), .ref (z + 3), .int (-1 : Int32), .int 0, .int 0, .int 0, .ref (z + 4), .int 0])) ∨ q = (z, .inl (g.2.2.1, 99880, .inr (.inl (fun _ => 0)))) ∨ q = (z + 1, .inl (g.2.1, 227, .inl (fun _ => 0))) ∨ q = (z + 2, .inl (g.2.1, 227, .inl (fun _ => 0))) ∨ q = (z + 3, .inl (g.2.1, 24, .inl (upd (upd (upd (upd (upd (upd (fun _ => 0) 0 (-1 : Int32)) 1 (-1 : Int32)) 2 (-1 : Int32)) 3 (-1 : Int32)) 4 (-1 : Int32)) 5 (-1 : Int32)))) ∨ q = (z + 4, .inl (g.2.1, 6, .inl (fun _ => 0)))) Y hw hS (Or.inr (Nat.le_add_right z _)) (Or.inr (Or.inr (Or.inr (Or.inr (Or.inl rfl))))) 0 rfl (by unfold vp_in; decide) (oX5_init_12 hbz) dX5_init_65 (fun H locs hw hz2 hS => ?_)
  replace hz := hz2.trans hz
  clear hz2
  refine lv_iinc (v := (6 : Int32)) (lv' := [(1, .int (6 : Int32)), (0, .ref b)]) hx hb dX5_init_66 hl (k := 0) rfl (by decide) (by decide) rfl (fun ls hl => ?_)
  refine lv_goto (tgt := 53) hx hb dX5_init_69 (by decide) ?_
  refine lv_iload_n hx hb dX5_init_53 rfl (lv_at hl 0 rfl) ?_
  refine lv_bipush (v := (24 : Int32)) hx hb dX5_init_54 (by decide) ?_
  refine lv_icmp_ge (tgt := 72) hx hb dX5_init_56 (by decide) (fun hc => ?_) (fun hc => ?_)
  · exact absurd hc (by decide)
  clear hc
  refine lv_aload_n hx hb dX5_init_59 rfl (lv_at hl 1 rfl) ?_
  refine n_get (v := .ref (z + 3)) Y hw (Or.inl rfl) rfl inA_X5 3 (by decide) mw_80 rfl dX5_init_60 ?_
  refine lv_iload_n hx hb dX5_init_63 rfl (lv_at hl 0 rfl) ?_
  refine lv_iconst (v := (-1 : Int32)) hx hb dX5_init_64 (by decide) ?_
  refine n_iast (T' := fun q => q = (b, .inr (5, [.ref (z), .ref (z + 1), .ref (z + 2), .ref (z + 3), .int (-1 : Int32), .int 0, .int 0, .int 0, .ref (z + 4), .int 0])) ∨ q = (z, .inl (g.2.2.1, 99880, .inr (.inl (fun _ => 0)))) ∨ q = (z + 1, .inl (g.2.1, 227, .inl (fun _ => 0))) ∨ q = (z + 2, .inl (g.2.1, 227, .inl (fun _ => 0))) ∨ q = (z + 3, .inl (g.2.1, 24, .inl (upd (upd (upd (upd (upd (upd (upd (fun _ => 0) 0 (-1 : Int32)) 1 (-1 : Int32)) 2 (-1 : Int32)) 3 (-1 : Int32)) 4 (-1 : Int32)) 5 (-1 : Int32)) 6 (-1 : Int32)))) ∨ q = (z + 4, .inl (g.2.1, 6, .inl (fun _ => 0)))) Y hw hS (Or.inr (Nat.le_add_right z _)) (Or.inr (Or.inr (Or.inr (Or.inr (Or.inl rfl))))) 0 rfl (by unfold vp_in; decide) (oX5_init_13 hbz) dX5_init_65 (fun H locs hw hz2 hS => ?_)
  replace hz := hz2.trans hz
  clear hz2
  refine lv_iinc (v := (7 : Int32)) (lv' := [(1, .int (7 : Int32)), (0, .ref b)]) hx hb dX5_init_66 hl (k := 0) rfl (by decide) (by decide) rfl (fun ls hl => ?_)
  refine lv_goto (tgt := 53) hx hb dX5_init_69 (by decide) ?_
  refine lv_iload_n hx hb dX5_init_53 rfl (lv_at hl 0 rfl) ?_
  refine lv_bipush (v := (24 : Int32)) hx hb dX5_init_54 (by decide) ?_
  refine lv_icmp_ge (tgt := 72) hx hb dX5_init_56 (by decide) (fun hc => ?_) (fun hc => ?_)
  · exact absurd hc (by decide)
  clear hc
  refine lv_aload_n hx hb dX5_init_59 rfl (lv_at hl 1 rfl) ?_
  refine n_get (v := .ref (z + 3)) Y hw (Or.inl rfl) rfl inA_X5 3 (by decide) mw_80 rfl dX5_init_60 ?_
  refine lv_iload_n hx hb dX5_init_63 rfl (lv_at hl 0 rfl) ?_
  refine lv_iconst (v := (-1 : Int32)) hx hb dX5_init_64 (by decide) ?_
  refine n_iast (T' := fun q => q = (b, .inr (5, [.ref (z), .ref (z + 1), .ref (z + 2), .ref (z + 3), .int (-1 : Int32), .int 0, .int 0, .int 0, .ref (z + 4), .int 0])) ∨ q = (z, .inl (g.2.2.1, 99880, .inr (.inl (fun _ => 0)))) ∨ q = (z + 1, .inl (g.2.1, 227, .inl (fun _ => 0))) ∨ q = (z + 2, .inl (g.2.1, 227, .inl (fun _ => 0))) ∨ q = (z + 3, .inl (g.2.1, 24, .inl (upd (upd (upd (upd (upd (upd (upd (upd (fun _ => 0) 0 (-1 : Int32)) 1 (-1 : Int32)) 2 (-1 : Int32)) 3 (-1 : Int32)) 4 (-1 : Int32)) 5 (-1 : Int32)) 6 (-1 : Int32)) 7 (-1 : Int32)))) ∨ q = (z + 4, .inl (g.2.1, 6, .inl (fun _ => 0)))) Y hw hS (Or.inr (Nat.le_add_right z _)) (Or.inr (Or.inr (Or.inr (Or.inr (Or.inl rfl))))) 0 rfl (by unfold vp_in; decide) (oX5_init_14 hbz) dX5_init_65 (fun H locs hw hz2 hS => ?_)
  replace hz := hz2.trans hz
  clear hz2
  refine lv_iinc (v := (8 : Int32)) (lv' := [(1, .int (8 : Int32)), (0, .ref b)]) hx hb dX5_init_66 hl (k := 0) rfl (by decide) (by decide) rfl (fun ls hl => ?_)
  refine lv_goto (tgt := 53) hx hb dX5_init_69 (by decide) ?_
  refine lv_iload_n hx hb dX5_init_53 rfl (lv_at hl 0 rfl) ?_
  refine lv_bipush (v := (24 : Int32)) hx hb dX5_init_54 (by decide) ?_
  refine lv_icmp_ge (tgt := 72) hx hb dX5_init_56 (by decide) (fun hc => ?_) (fun hc => ?_)
  · exact absurd hc (by decide)
  clear hc
  refine lv_aload_n hx hb dX5_init_59 rfl (lv_at hl 1 rfl) ?_
  refine n_get (v := .ref (z + 3)) Y hw (Or.inl rfl) rfl inA_X5 3 (by decide) mw_80 rfl dX5_init_60 ?_
  refine lv_iload_n hx hb dX5_init_63 rfl (lv_at hl 0 rfl) ?_
  refine lv_iconst (v := (-1 : Int32)) hx hb dX5_init_64 (by decide) ?_
  refine n_iast (T' := fun q => q = (b, .inr (5, [.ref (z), .ref (z + 1), .ref (z + 2), .ref (z + 3), .int (-1 : Int32), .int 0, .int 0, .int 0, .ref (z + 4), .int 0])) ∨ q = (z, .inl (g.2.2.1, 99880, .inr (.inl (fun _ => 0)))) ∨ q = (z + 1, .inl (g.2.1, 227, .inl (fun _ => 0))) ∨ q = (z + 2, .inl (g.2.1, 227, .inl (fun _ => 0))) ∨ q = (z + 3, .inl (g.2.1, 24, .inl (upd (upd (upd (upd (upd (upd (upd (upd (upd (fun _ => 0) 0 (-1 : Int32)) 1 (-1 : Int32)) 2 (-1 : Int32)) 3 (-1 : Int32)) 4 (-1 : Int32)) 5 (-1 : Int32)) 6 (-1 : Int32)) 7 (-1 : Int32)) 8 (-1 : Int32)))) ∨ q = (z + 4, .inl (g.2.1, 6, .inl (fun _ => 0)))) Y hw hS (Or.inr (Nat.le_add_right z _)) (Or.inr (Or.inr (Or.inr (Or.inr (Or.inl rfl))))) 0 rfl (by unfold vp_in; decide) (oX5_init_15 hbz) dX5_init_65 (fun H locs hw hz2 hS => ?_)
  replace hz := hz2.trans hz
  clear hz2
  refine lv_iinc (v := (9 : Int32)) (lv' := [(1, .int (9 : Int32)), (0, .ref b)]) hx hb dX5_init_66 hl (k := 0) rfl (by decide) (by decide) rfl (fun ls hl => ?_)
  refine lv_goto (tgt := 53) hx hb dX5_init_69 (by decide) ?_
  refine lv_iload_n hx hb dX5_init_53 rfl (lv_at hl 0 rfl) ?_
  refine lv_bipush (v := (24 : Int32)) hx hb dX5_init_54 (by decide) ?_
  refine lv_icmp_ge (tgt := 72) hx hb dX5_init_56 (by decide) (fun hc => ?_) (fun hc => ?_)
  · exact absurd hc (by decide)
  clear hc
  refine lv_aload_n hx hb dX5_init_59 rfl (lv_at hl 1 rfl) ?_
  refine n_get (v := .ref (z + 3)) Y hw (Or.inl rfl) rfl inA_X5 3 (by decide) mw_80 rfl dX5_init_60 ?_
  refine lv_iload_n hx hb dX5_init_63 rfl (lv_at hl 0 rfl) ?_
  refine lv_iconst (v := (-1 : Int32)) hx hb dX5_init_64 (by decide) ?_
  refine n_iast (T' := fun q => q = (b, .inr (5, [.ref (z), .ref (z + 1), .ref (z + 2), .ref (z + 3), .int (-1 : Int32), .int 0, .int 0, .int 0, .ref (z + 4), .int 0])) ∨ q = (z, .inl (g.2.2.1, 99880, .inr (.inl (fun _ => 0)))) ∨ q = (z + 1, .inl (g.2.1, 227, .inl (fun _ => 0))) ∨ q = (z + 2, .inl (g.2.1, 227, .inl (fun _ => 0))) ∨ q = (z + 3, .inl (g.2.1, 24, .inl (upd (upd (upd (upd (upd (upd (upd (upd (upd (upd (fun _ => 0) 0 (-1 : Int32)) 1 (-1 : Int32)) 2 (-1 : Int32)) 3 (-1 : Int32)) 4 (-1 : Int32)) 5 (-1 : Int32)) 6 (-1 : Int32)) 7 (-1 : Int32)) 8 (-1 : Int32)) 9 (-1 : Int32)))) ∨ q = (z + 4, .inl (g.2.1, 6, .inl (fun _ => 0)))) Y hw hS (Or.inr (Nat.le_add_right z _)) (Or.inr (Or.inr (Or.inr (Or.inr (Or.inl rfl))))) 0 rfl (by unfold vp_in; decide) (oX5_init_16 hbz) dX5_init_65 (fun H locs hw hz2 hS => ?_)
  replace hz := hz2.trans hz
  clear hz2
  refine lv_iinc (v := (10 : Int32)) (lv' := [(1, .int (10 : Int32)), (0, .ref b)]) hx hb dX5_init_66 hl (k := 0) rfl (by decide) (by decide) rfl (fun ls hl => ?_)
  refine lv_goto (tgt := 53) hx hb dX5_init_69 (by decide) ?_
  refine lv_iload_n hx hb dX5_init_53 rfl (lv_at hl 0 rfl) ?_
  refine lv_bipush (v := (24 : Int32)) hx hb dX5_init_54 (by decide) ?_
  refine lv_icmp_ge (tgt := 72) hx hb dX5_init_56 (by decide) (fun hc => ?_) (fun hc => ?_)
  · exact absurd hc (by decide)
  clear hc
  refine lv_aload_n hx hb dX5_init_59 rfl (lv_at hl 1 rfl) ?_
  refine n_get (v := .ref (z + 3)) Y hw (Or.inl rfl) rfl inA_X5 3 (by decide) mw_80 rfl dX5_init_60 ?_
  refine lv_iload_n hx hb dX5_init_63 rfl (lv_at hl 0 rfl) ?_
  refine lv_iconst (v := (-1 : Int32)) hx hb dX5_init_64 (by decide) ?_
  refine n_iast (T' := fun q => q = (b, .inr (5, [.ref (z), .ref (z + 1), .ref (z + 2), .ref (z + 3), .int (-1 : Int32), .int 0, .int 0, .int 0, .ref (z + 4), .int 0])) ∨ q = (z, .inl (g.2.2.1, 99880, .inr (.inl (fun _ => 0)))) ∨ q = (z + 1, .inl (g.2.1, 227, .inl (fun _ => 0))) ∨ q = (z + 2, .inl (g.2.1, 227, .inl (fun _ => 0))) ∨ q = (z + 3, .inl (g.2.1, 24, .inl (upd (upd (upd (upd (upd (upd (upd (upd (upd (upd (upd (fun _ => 0) 0 (-1 : Int32)) 1 (-1 : Int32)) 2 (-1 : Int32)) 3 (-1 : Int32)) 4 (-1 : Int32)) 5 (-1 : Int32)) 6 (-1 : Int32)) 7 (-1 : Int32)) 8 (-1 : Int32)) 9 (-1 : Int32)) 10 (-1 : Int32)))) ∨ q = (z + 4, .inl (g.2.1, 6, .inl (fun _ => 0)))) Y hw hS (Or.inr (Nat.le_add_right z _)) (Or.inr (Or.inr (Or.inr (Or.inr (Or.inl rfl))))) 0 rfl (by unfold vp_in; decide) (oX5_init_17 hbz) dX5_init_65 (fun H locs hw hz2 hS => ?_)
  replace hz := hz2.trans hz
  clear hz2
  refine lv_iinc (v := (11 : Int32)) (lv' := [(1, .int (11 : Int32)), (0, .ref b)]) hx hb dX5_init_66 hl (k := 0) rfl (by decide) (by decide) rfl (fun ls hl => ?_)
  refine lv_goto (tgt := 53) hx hb dX5_init_69 (by decide) ?_
  refine lv_iload_n hx hb dX5_init_53 rfl (lv_at hl 0 rfl) ?_
  refine lv_bipush (v := (24 : Int32)) hx hb dX5_init_54 (by decide) ?_
  refine lv_icmp_ge (tgt := 72) hx hb dX5_init_56 (by decide) (fun hc => ?_) (fun hc => ?_)
  · exact absurd hc (by decide)
  clear hc
  refine lv_aload_n hx hb dX5_init_59 rfl (lv_at hl 1 rfl) ?_
  refine n_get (v := .ref (z + 3)) Y hw (Or.inl rfl) rfl inA_X5 3 (by decide) mw_80 rfl dX5_init_60 ?_
  refine lv_iload_n hx hb dX5_init_63 rfl (lv_at hl 0 rfl) ?_
  refine lv_iconst (v := (-1 : Int32)) hx hb dX5_init_64 (by decide) ?_
  refine n_iast (T' := fun q => q = (b, .inr (5, [.ref (z), .ref (z + 1), .ref (z + 2), .ref (z + 3), .int (-1 : Int32), .int 0, .int 0, .int 0, .ref (z + 4), .int 0])) ∨ q = (z, .inl (g.2.2.1, 99880, .inr (.inl (fun _ => 0)))) ∨ q = (z + 1, .inl (g.2.1, 227, .inl (fun _ => 0))) ∨ q = (z + 2, .inl (g.2.1, 227, .inl (fun _ => 0))) ∨ q = (z + 3, .inl (g.2.1, 24, .inl (upd (upd (upd (upd (upd (upd (upd (upd (upd (upd (upd (upd (fun _ => 0) 0 (-1 : Int32)) 1 (-1 : Int32)) 2 (-1 : Int32)) 3 (-1 : Int32)) 4 (-1 : Int32)) 5 (-1 : Int32)) 6 (-1 : Int32)) 7 (-1 : Int32)) 8 (-1 : Int32)) 9 (-1 : Int32)) 10 (-1 : Int32)) 11 (-1 : Int32)))) ∨ q = (z + 4, .inl (g.2.1, 6, .inl (fun _ => 0)))) Y hw hS (Or.inr (Nat.le_add_right z _)) (Or.inr (Or.inr (Or.inr (Or.inr (Or.inl rfl))))) 0 rfl (by unfold vp_in; decide) (oX5_init_18 hbz) dX5_init_65 (fun H locs hw hz2 hS => ?_)
  replace hz := hz2.trans hz
  clear hz2
  refine lv_iinc (v := (12 : Int32)) (lv' := [(1, .int (12 : Int32)), (0, .ref b)]) hx hb dX5_init_66 hl (k := 0) rfl (by decide) (by decide) rfl (fun ls hl => ?_)
  refine lv_goto (tgt := 53) hx hb dX5_init_69 (by decide) ?_
  refine lv_iload_n hx hb dX5_init_53 rfl (lv_at hl 0 rfl) ?_
  refine lv_bipush (v := (24 : Int32)) hx hb dX5_init_54 (by decide) ?_
  refine lv_icmp_ge (tgt := 72) hx hb dX5_init_56 (by decide) (fun hc => ?_) (fun hc => ?_)
  · exact absurd hc (by decide)
  clear hc
  refine lv_aload_n hx hb dX5_init_59 rfl (lv_at hl 1 rfl) ?_
  refine n_get (v := .ref (z + 3)) Y hw (Or.inl rfl) rfl inA_X5 3 (by decide) mw_80 rfl dX5_init_60 ?_
  refine lv_iload_n hx hb dX5_init_63 rfl (lv_at hl 0 rfl) ?_
  refine lv_iconst (v := (-1 : Int32)) hx hb dX5_init_64 (by decide) ?_
  refine n_iast (T' := fun q => q = (b, .inr (5, [.ref (z), .ref (z + 1), .ref (z + 2), .ref (z + 3), .int (-1 : Int32), .int 0, .int 0, .int 0, .ref (z + 4), .int 0])) ∨ q = (z, .inl (g.2.2.1, 99880, .inr (.inl (fun _ => 0)))) ∨ q = (z + 1, .inl (g.2.1, 227, .inl (fun _ => 0))) ∨ q = (z + 2, .inl (g.2.1, 227, .inl (fun _ => 0))) ∨ q = (z + 3, .inl (g.2.1, 24, .inl (upd (upd (upd (upd (upd (upd (upd (upd (upd (upd (upd (upd (upd (fun _ => 0) 0 (-1 : Int32)) 1 (-1 : Int32)) 2 (-1 : Int32)) 3 (-1 : Int32)) 4 (-1 : Int32)) 5 (-1 : Int32)) 6 (-1 : Int32)) 7 (-1 : Int32)) 8 (-1 : Int32)) 9 (-1 : Int32)) 10 (-1 : Int32)) 11 (-1 : Int32)) 12 (-1 : Int32)))) ∨ q = (z + 4, .inl (g.2.1, 6, .inl (fun _ => 0)))) Y hw hS (Or.inr (Nat.le_add_right z _)) (Or.inr (Or.inr (Or.inr (Or.inr (Or.inl rfl))))) 0 rfl (by unfold vp_in; decide) (oX5_init_19 hbz) dX5_init_65 (fun H locs hw hz2 hS => ?_)
  replace hz := hz2.trans hz
  clear hz2
  refine lv_iinc (v := (13 : Int32)) (lv' := [(1, .int (13 : Int32)), (0, .ref b)]) hx hb dX5_init_66 hl (k := 0) rfl (by decide) (by decide) rfl (fun ls hl => ?_)
  refine lv_goto (tgt := 53) hx hb dX5_init_69 (by decide) ?_
  refine lv_iload_n hx hb dX5_init_53 rfl (lv_at hl 0 rfl) ?_
  refine lv_bipush (v := (24 : Int32)) hx hb dX5_init_54 (by decide) ?_
  refine lv_icmp_ge (tgt := 72) hx hb dX5_init_56 (by decide) (fun hc => ?_) (fun hc => ?_)
  · exact absurd hc (by decide)
  clear hc
  refine lv_aload_n hx hb dX5_init_59 rfl (lv_at hl 1 rfl) ?_
  refine n_get (v := .ref (z + 3)) Y hw (Or.inl rfl) rfl inA_X5 3 (by decide) mw_80 rfl dX5_init_60 ?_
  refine lv_iload_n hx hb dX5_init_63 rfl (lv_at hl 0 rfl) ?_
  refine lv_iconst (v := (-1 : Int32)) hx hb dX5_init_64 (by decide) ?_
  refine n_iast (T' := fun q => q = (b, .inr (5, [.ref (z), .ref (z + 1), .ref (z + 2), .ref (z + 3), .int (-1 : Int32), .int 0, .int 0, .int 0, .ref (z + 4), .int 0])) ∨ q = (z, .inl (g.2.2.1, 99880, .inr (.inl (fun _ => 0)))) ∨ q = (z + 1, .inl (g.2.1, 227, .inl (fun _ => 0))) ∨ q = (z + 2, .inl (g.2.1, 227, .inl (fun _ => 0))) ∨ q = (z + 3, .inl (g.2.1, 24, .inl (upd (upd (upd (upd (upd (upd (upd (upd (upd (upd (upd (upd (upd (upd (fun _ => 0) 0 (-1 : Int32)) 1 (-1 : Int32)) 2 (-1 : Int32)) 3 (-1 : Int32)) 4 (-1 : Int32)) 5 (-1 : Int32)) 6 (-1 : Int32)) 7 (-1 : Int32)) 8 (-1 : Int32)) 9 (-1 : Int32)) 10 (-1 : Int32)) 11 (-1 : Int32)) 12 (-1 : Int32)) 13 (-1 : Int32)))) ∨ q = (z + 4, .inl (g.2.1, 6, .inl (fun _ => 0)))) Y hw hS (Or.inr (Nat.le_add_right z _)) (Or.inr (Or.inr (Or.inr (Or.inr (Or.inl rfl))))) 0 rfl (by unfold vp_in; decide) (oX5_init_20 hbz) dX5_init_65 (fun H locs hw hz2 hS => ?_)
  replace hz := hz2.trans hz
  clear hz2
  refine lv_iinc (v := (14 : Int32)) (lv' := [(1, .int (14 : Int32)), (0, .ref b)]) hx hb dX5_init_66 hl (k := 0) rfl (by decide) (by decide) rfl (fun ls hl => ?_)
  refine lv_goto (tgt := 53) hx hb dX5_init_69 (by decide) ?_
  refine lv_iload_n hx hb dX5_init_53 rfl (lv_at hl 0 rfl) ?_
  refine lv_bipush (v := (24 : Int32)) hx hb dX5_init_54 (by decide) ?_
  refine lv_icmp_ge (tgt := 72) hx hb dX5_init_56 (by decide) (fun hc => ?_) (fun hc => ?_)
  · exact absurd hc (by decide)
  clear hc
  refine lv_aload_n hx hb dX5_init_59 rfl (lv_at hl 1 rfl) ?_
  refine n_get (v := .ref (z + 3)) Y hw (Or.inl rfl) rfl inA_X5 3 (by decide) mw_80 rfl dX5_init_60 ?_
  refine lv_iload_n hx hb dX5_init_63 rfl (lv_at hl 0 rfl) ?_
  refine lv_iconst (v := (-1 : Int32)) hx hb dX5_init_64 (by decide) ?_
  refine n_iast (T' := fun q => q = (b, .inr (5, [.ref (z), .ref (z + 1), .ref (z + 2), .ref (z + 3), .int (-1 : Int32), .int 0, .int 0, .int 0, .ref (z + 4), .int 0])) ∨ q = (z, .inl (g.2.2.1, 99880, .inr (.inl (fun _ => 0)))) ∨ q = (z + 1, .inl (g.2.1, 227, .inl (fun _ => 0))) ∨ q = (z + 2, .inl (g.2.1, 227, .inl (fun _ => 0))) ∨ q = (z + 3, .inl (g.2.1, 24, .inl (upd (upd (upd (upd (upd (upd (upd (upd (upd (upd (upd (upd (upd (upd (upd (fun _ => 0) 0 (-1 : Int32)) 1 (-1 : Int32)) 2 (-1 : Int32)) 3 (-1 : Int32)) 4 (-1 : Int32)) 5 (-1 : Int32)) 6 (-1 : Int32)) 7 (-1 : Int32)) 8 (-1 : Int32)) 9 (-1 : Int32)) 10 (-1 : Int32)) 11 (-1 : Int32)) 12 (-1 : Int32)) 13 (-1 : Int32)) 14 (-1 : Int32)))) ∨ q = (z + 4, .inl (g.2.1, 6, .inl (fun _ => 0)))) Y hw hS (Or.inr (Nat.le_add_right z _)) (Or.inr (Or.inr (Or.inr (Or.inr (Or.inl rfl))))) 0 rfl (by unfold vp_in; decide) (oX5_init_21 hbz) dX5_init_65 (fun H locs hw hz2 hS => ?_)
  replace hz := hz2.trans hz
  clear hz2
  refine lv_iinc (v := (15 : Int32)) (lv' := [(1, .int (15 : Int32)), (0, .ref b)]) hx hb dX5_init_66 hl (k := 0) rfl (by decide) (by decide) rfl (fun ls hl => ?_)
  refine lv_goto (tgt := 53) hx hb dX5_init_69 (by decide) ?_
  refine lv_iload_n hx hb dX5_init_53 rfl (lv_at hl 0 rfl) ?_
  refine lv_bipush (v := (24 : Int32)) hx hb dX5_init_54 (by decide) ?_
  refine lv_icmp_ge (tgt := 72) hx hb dX5_init_56 (by decide) (fun hc => ?_) (fun hc => ?_)
  · exact absurd hc (by decide)
  clear hc
  refine lv_aload_n hx hb dX5_init_59 rfl (lv_at hl 1 rfl) ?_
  refine n_get (v := .ref (z + 3)) Y hw (Or.inl rfl) rfl inA_X5 3 (by decide) mw_80 rfl dX5_init_60 ?_
  refine lv_iload_n hx hb dX5_init_63 rfl (lv_at hl 0 rfl) ?_
  refine lv_iconst (v := (-1 : Int32)) hx hb dX5_init_64 (by decide) ?_
  refine n_iast (T' := fun q => q = (b, .inr (5, [.ref (z), .ref (z + 1), .ref (z + 2), .ref (z + 3), .int (-1 : Int32), .int 0, .int 0, .int 0, .ref (z + 4), .int 0])) ∨ q = (z, .inl (g.2.2.1, 99880, .inr (.inl (fun _ => 0)))) ∨ q = (z + 1, .inl (g.2.1, 227, .inl (fun _ => 0))) ∨ q = (z + 2, .inl (g.2.1, 227, .inl (fun _ => 0))) ∨ q = (z + 3, .inl (g.2.1, 24, .inl (upd (upd (upd (upd (upd (upd (upd (upd (upd (upd (upd (upd (upd (upd (upd (upd (fun _ => 0) 0 (-1 : Int32)) 1 (-1 : Int32)) 2 (-1 : Int32)) 3 (-1 : Int32)) 4 (-1 : Int32)) 5 (-1 : Int32)) 6 (-1 : Int32)) 7 (-1 : Int32)) 8 (-1 : Int32)) 9 (-1 : Int32)) 10 (-1 : Int32)) 11 (-1 : Int32)) 12 (-1 : Int32)) 13 (-1 : Int32)) 14 (-1 : Int32)) 15 (-1 : Int32)))) ∨ q = (z + 4, .inl (g.2.1, 6, .inl (fun _ => 0)))) Y hw hS (Or.inr (Nat.le_add_right z _)) (Or.inr (Or.inr (Or.inr (Or.inr (Or.inl rfl))))) 0 rfl (by unfold vp_in; decide) (oX5_init_22 hbz) dX5_init_65 (fun H locs hw hz2 hS => ?_)
  replace hz := hz2.trans hz
  clear hz2
  refine lv_iinc (v := (16 : Int32)) (lv' := [(1, .int (16 : Int32)), (0, .ref b)]) hx hb dX5_init_66 hl (k := 0) rfl (by decide) (by decide) rfl (fun ls hl => ?_)
  refine lv_goto (tgt := 53) hx hb dX5_init_69 (by decide) ?_
  refine lv_iload_n hx hb dX5_init_53 rfl (lv_at hl 0 rfl) ?_
  refine lv_bipush (v := (24 : Int32)) hx hb dX5_init_54 (by decide) ?_
  refine lv_icmp_ge (tgt := 72) hx hb dX5_init_56 (by decide) (fun hc => ?_) (fun hc => ?_)
  · exact absurd hc (by decide)
  clear hc
  refine lv_aload_n hx hb dX5_init_59 rfl (lv_at hl 1 rfl) ?_
  refine n_get (v := .ref (z + 3)) Y hw (Or.inl rfl) rfl inA_X5 3 (by decide) mw_80 rfl dX5_init_60 ?_
  refine lv_iload_n hx hb dX5_init_63 rfl (lv_at hl 0 rfl) ?_
  refine lv_iconst (v := (-1 : Int32)) hx hb dX5_init_64 (by decide) ?_
  refine n_iast (T' := fun q => q = (b, .inr (5, [.ref (z), .ref (z + 1), .ref (z + 2), .ref (z + 3), .int (-1 : Int32), .int 0, .int 0, .int 0, .ref (z + 4), .int 0])) ∨ q = (z, .inl (g.2.2.1, 99880, .inr (.inl (fun _ => 0)))) ∨ q = (z + 1, .inl (g.2.1, 227, .inl (fun _ => 0))) ∨ q = (z + 2, .inl (g.2.1, 227, .inl (fun _ => 0))) ∨ q = (z + 3, .inl (g.2.1, 24, .inl (upd (upd (upd (upd (upd (upd (upd (upd (upd (upd (upd (upd (upd (upd (upd (upd (upd (fun _ => 0) 0 (-1 : Int32)) 1 (-1 : Int32)) 2 (-1 : Int32)) 3 (-1 : Int32)) 4 (-1 : Int32)) 5 (-1 : Int32)) 6 (-1 : Int32)) 7 (-1 : Int32)) 8 (-1 : Int32)) 9 (-1 : Int32)) 10 (-1 : Int32)) 11 (-1 : Int32)) 12 (-1 : Int32)) 13 (-1 : Int32)) 14 (-1 : Int32)) 15 (-1 : Int32)) 16 (-1 : Int32)))) ∨ q = (z + 4, .inl (g.2.1, 6, .inl (fun _ => 0)))) Y hw hS (Or.inr (Nat.le_add_right z _)) (Or.inr (Or.inr (Or.inr (Or.inr (Or.inl rfl))))) 0 rfl (by unfold vp_in; decide) (oX5_init_23 hbz) dX5_init_65 (fun H locs hw hz2 hS => ?_)
  replace hz := hz2.trans hz
  clear hz2
  refine lv_iinc (v := (17 : Int32)) (lv' := [(1, .int (17 : Int32)), (0, .ref b)]) hx hb dX5_init_66 hl (k := 0) rfl (by decide) (by decide) rfl (fun ls hl => ?_)
  refine lv_goto (tgt := 53) hx hb dX5_init_69 (by decide) ?_
  refine lv_iload_n hx hb dX5_init_53 rfl (lv_at hl 0 rfl) ?_
  refine lv_bipush (v := (24 : Int32)) hx hb dX5_init_54 (by decide) ?_
  refine lv_icmp_ge (tgt := 72) hx hb dX5_init_56 (by decide) (fun hc => ?_) (fun hc => ?_)
  · exact absurd hc (by decide)
  clear hc
  refine lv_aload_n hx hb dX5_init_59 rfl (lv_at hl 1 rfl) ?_
  refine n_get (v := .ref (z + 3)) Y hw (Or.inl rfl) rfl inA_X5 3 (by decide) mw_80 rfl dX5_init_60 ?_
  refine lv_iload_n hx hb dX5_init_63 rfl (lv_at hl 0 rfl) ?_
  refine lv_iconst (v := (-1 : Int32)) hx hb dX5_init_64 (by decide) ?_
  refine n_iast (T' := fun q => q = (b, .inr (5, [.ref (z), .ref (z + 1), .ref (z + 2), .ref (z + 3), .int (-1 : Int32), .int 0, .int 0, .int 0, .ref (z + 4), .int 0])) ∨ q = (z, .inl (g.2.2.1, 99880, .inr (.inl (fun _ => 0)))) ∨ q = (z + 1, .inl (g.2.1, 227, .inl (fun _ => 0))) ∨ q = (z + 2, .inl (g.2.1, 227, .inl (fun _ => 0))) ∨ q = (z + 3, .inl (g.2.1, 24, .inl (upd (upd (upd (upd (upd (upd (upd (upd (upd (upd (upd (upd (upd (upd (upd (upd (upd (upd (fun _ => 0) 0 (-1 : Int32)) 1 (-1 : Int32)) 2 (-1 : Int32)) 3 (-1 : Int32)) 4 (-1 : Int32)) 5 (-1 : Int32)) 6 (-1 : Int32)) 7 (-1 : Int32)) 8 (-1 : Int32)) 9 (-1 : Int32)) 10 (-1 : Int32)) 11 (-1 : Int32)) 12 (-1 : Int32)) 13 (-1 : Int32)) 14 (-1 : Int32)) 15 (-1 : Int32)) 16 (-1 : Int32)) 17 (-1 : Int32)))) ∨ q = (z + 4, .inl (g.2.1, 6, .inl (fun _ => 0)))) Y hw hS (Or.inr (Nat.le_add_right z _)) (Or.inr (Or.inr (Or.inr (Or.inr (Or.inl rfl))))) 0 rfl (by unfold vp_in; decide) (oX5_init_24 hbz) dX5_init_65 (fun H locs hw hz2 hS => ?_)
  replace hz := hz2.trans hz
  clear hz2
  refine lv_iinc (v := (18 : Int32)) (lv' := [(1, .int (18 : Int32)), (0, .ref b)]) hx hb dX5_init_66 hl (k := 0) rfl (by decide) (by decide) rfl (fun ls hl => ?_)
  refine lv_goto (tgt := 53) hx hb dX5_init_69 (by decide) ?_
  refine lv_iload_n hx hb dX5_init_53 rfl (lv_at hl 0 rfl) ?_
  refine lv_bipush (v := (24 : Int32)) hx hb dX5_init_54 (by decide) ?_
  refine lv_icmp_ge (tgt := 72) hx hb dX5_init_56 (by decide) (fun hc => ?_) (fun hc => ?_)
  · exact absurd hc (by decide)
  clear hc
  refine lv_aload_n hx hb dX5_init_59 rfl (lv_at hl 1 rfl) ?_
  refine n_get (v := .ref (z + 3)) Y hw (Or.inl rfl) rfl inA_X5 3 (by decide) mw_80 rfl dX5_init_60 ?_
  refine lv_iload_n hx hb dX5_init_63 rfl (lv_at hl 0 rfl) ?_
  refine lv_iconst (v := (-1 : Int32)) hx hb dX5_init_64 (by decide) ?_
  refine n_iast (T' := fun q => q = (b, .inr (5, [.ref (z), .ref (z + 1), .ref (z + 2), .ref (z + 3), .int (-1 : Int32), .int 0, .int 0, .int 0, .ref (z + 4), .int 0])) ∨ q = (z, .inl (g.2.2.1, 99880, .inr (.inl (fun _ => 0)))) ∨ q = (z + 1, .inl (g.2.1, 227, .inl (fun _ => 0))) ∨ q = (z + 2, .inl (g.2.1, 227, .inl (fun _ => 0))) ∨ q = (z + 3, .inl (g.2.1, 24, .inl (upd (upd (upd (upd (upd (upd (upd (upd (upd (upd (upd (upd (upd (upd (upd (upd (upd (upd (upd (fun _ => 0) 0 (-1 : Int32)) 1 (-1 : Int32)) 2 (-1 : Int32)) 3 (-1 : Int32)) 4 (-1 : Int32)) 5 (-1 : Int32)) 6 (-1 : Int32)) 7 (-1 : Int32)) 8 (-1 : Int32)) 9 (-1 : Int32)) 10 (-1 : Int32)) 11 (-1 : Int32)) 12 (-1 : Int32)) 13 (-1 : Int32)) 14 (-1 : Int32)) 15 (-1 : Int32)) 16 (-1 : Int32)) 17 (-1 : Int32)) 18 (-1 : Int32)))) ∨ q = (z + 4, .inl (g.2.1, 6, .inl (fun _ => 0)))) Y hw hS (Or.inr (Nat.le_add_right z _)) (Or.inr (Or.inr (Or.inr (Or.inr (Or.inl rfl))))) 0 rfl (by unfold vp_in; decide) (oX5_init_25 hbz) dX5_init_65 (fun H locs hw hz2 hS => ?_)
  replace hz := hz2.trans hz
  clear hz2
  refine lv_iinc (v := (19 : Int32)) (lv' := [(1, .int (19 : Int32)), (0, .ref b)]) hx hb dX5_init_66 hl (k := 0) rfl (by decide) (by decide) rfl (fun ls hl => ?_)
  refine lv_goto (tgt := 53) hx hb dX5_init_69 (by decide) ?_
  refine lv_iload_n hx hb dX5_init_53 rfl (lv_at hl 0 rfl) ?_
  refine lv_bipush (v := (24 : Int32)) hx hb dX5_init_54 (by decide) ?_
  refine lv_icmp_ge (tgt := 72) hx hb dX5_init_56 (by decide) (fun hc => ?_) (fun hc => ?_)
  · exact absurd hc (by decide)
  clear hc
  refine lv_aload_n hx hb dX5_init_59 rfl (lv_at hl 1 rfl) ?_
  refine n_get (v := .ref (z + 3)) Y hw (Or.inl rfl) rfl inA_X5 3 (by decide) mw_80 rfl dX5_init_60 ?_
  refine lv_iload_n hx hb dX5_init_63 rfl (lv_at hl 0 rfl) ?_
  refine lv_iconst (v := (-1 : Int32)) hx hb dX5_init_64 (by decide) ?_
  refine n_iast (T' := fun q => q = (b, .inr (5, [.ref (z), .ref (z + 1), .ref (z + 2), .ref (z + 3), .int (-1 : Int32), .int 0, .int 0, .int 0, .ref (z + 4), .int 0])) ∨ q = (z, .inl (g.2.2.1, 99880, .inr (.inl (fun _ => 0)))) ∨ q = (z + 1, .inl (g.2.1, 227, .inl (fun _ => 0))) ∨ q = (z + 2, .inl (g.2.1, 227, .inl (fun _ => 0))) ∨ q = (z + 3, .inl (g.2.1, 24, .inl (upd (upd (upd (upd (upd (upd (upd (upd (upd (upd (upd (upd (upd (upd (upd (upd (upd (upd (upd (upd (fun _ => 0) 0 (-1 : Int32)) 1 (-1 : Int32)) 2 (-1 : Int32)) 3 (-1 : Int32)) 4 (-1 : Int32)) 5 (-1 : Int32)) 6 (-1 : Int32)) 7 (-1 : Int32)) 8 (-1 : Int32)) 9 (-1 : Int32)) 10 (-1 : Int32)) 11 (-1 : Int32)) 12 (-1 : Int32)) 13 (-1 : Int32)) 14 (-1 : Int32)) 15 (-1 : Int32)) 16 (-1 : Int32)) 17 (-1 : Int32)) 18 (-1 : Int32)) 19 (-1 : Int32)))) ∨ q = (z + 4, .inl (g.2.1, 6, .inl (fun _ => 0)))) Y hw hS (Or.inr (Nat.le_add_right z _)) (Or.inr (Or.inr (Or.inr (Or.inr (Or.inl rfl))))) 0 rfl (by unfold vp_in; decide) (oX5_init_26 hbz) dX5_init_65 (fun H locs hw hz2 hS => ?_)
  replace hz := hz2.trans hz
  clear hz2
  refine lv_iinc (v := (20 : Int32)) (lv' := [(1, .int (20 : Int32)), (0, .ref b)]) hx hb dX5_init_66 hl (k := 0) rfl (by decide) (by decide) rfl (fun ls hl => ?_)
  refine lv_goto (tgt := 53) hx hb dX5_init_69 (by decide) ?_
  refine lv_iload_n hx hb dX5_init_53 rfl (lv_at hl 0 rfl) ?_
  refine lv_bipush (v := (24 : Int32)) hx hb dX5_init_54 (by decide) ?_
  refine lv_icmp_ge (tgt := 72) hx hb dX5_init_56 (by decide) (fun hc => ?_) (fun hc => ?_)
  · exact absurd hc (by decide)
  clear hc
  refine lv_aload_n hx hb dX5_init_59 rfl (lv_at hl 1 rfl) ?_
  refine n_get (v := .ref (z + 3)) Y hw (Or.inl rfl) rfl inA_X5 3 (by decide) mw_80 rfl dX5_init_60 ?_
  refine lv_iload_n hx hb dX5_init_63 rfl (lv_at hl 0 rfl) ?_
  refine lv_iconst (v := (-1 : Int32)) hx hb dX5_init_64 (by decide) ?_
  refine n_iast (T' := fun q => q = (b, .inr (5, [.ref (z), .ref (z + 1), .ref (z + 2), .ref (z + 3), .int (-1 : Int32), .int 0, .int 0, .int 0, .ref (z + 4), .int 0])) ∨ q = (z, .inl (g.2.2.1, 99880, .inr (.inl (fun _ => 0)))) ∨ q = (z + 1, .inl (g.2.1, 227, .inl (fun _ => 0))) ∨ q = (z + 2, .inl (g.2.1, 227, .inl (fun _ => 0))) ∨ q = (z + 3, .inl (g.2.1, 24, .inl (upd (upd (upd (upd (upd (upd (upd (upd (upd (upd (upd (upd (upd (upd (upd (upd (upd (upd (upd (upd (upd (fun _ => 0) 0 (-1 : Int32)) 1 (-1 : Int32)) 2 (-1 : Int32)) 3 (-1 : Int32)) 4 (-1 : Int32)) 5 (-1 : Int32)) 6 (-1 : Int32)) 7 (-1 : Int32)) 8 (-1 : Int32)) 9 (-1 : Int32)) 10 (-1 : Int32)) 11 (-1 : Int32)) 12 (-1 : Int32)) 13 (-1 : Int32)) 14 (-1 : Int32)) 15 (-1 : Int32)) 16 (-1 : Int32)) 17 (-1 : Int32)) 18 (-1 : Int32)) 19 (-1 : Int32)) 20 (-1 : Int32)))) ∨ q = (z + 4, .inl (g.2.1, 6, .inl (fun _ => 0)))) Y hw hS (Or.inr (Nat.le_add_right z _)) (Or.inr (Or.inr (Or.inr (Or.inr (Or.inl rfl))))) 0 rfl (by unfold vp_in; decide) (oX5_init_27 hbz) dX5_init_65 (fun H locs hw hz2 hS => ?_)
  replace hz := hz2.trans hz
  clear hz2
  refine lv_iinc (v := (21 : Int32)) (lv' := [(1, .int (21 : Int32)), (0, .ref b)]) hx hb dX5_init_66 hl (k := 0) rfl (by decide) (by decide) rfl (fun ls hl => ?_)
  refine lv_goto (tgt := 53) hx hb dX5_init_69 (by decide) ?_
  refine lv_iload_n hx hb dX5_init_53 rfl (lv_at hl 0 rfl) ?_
  refine lv_bipush (v := (24 : Int32)) hx hb dX5_init_54 (by decide) ?_
  refine lv_icmp_ge (tgt := 72) hx hb dX5_init_56 (by decide) (fun hc => ?_) (fun hc => ?_)
  · exact absurd hc (by decide)
  clear hc
  refine lv_aload_n hx hb dX5_init_59 rfl (lv_at hl 1 rfl) ?_
  refine n_get (v := .ref (z + 3)) Y hw (Or.inl rfl) rfl inA_X5 3 (by decide) mw_80 rfl dX5_init_60 ?_
  refine lv_iload_n hx hb dX5_init_63 rfl (lv_at hl 0 rfl) ?_
  refine lv_iconst (v := (-1 : Int32)) hx hb dX5_init_64 (by decide) ?_
  refine n_iast (T' := fun q => q = (b, .inr (5, [.ref (z), .ref (z + 1), .ref (z + 2), .ref (z + 3), .int (-1 : Int32), .int 0, .int 0, .int 0, .ref (z + 4), .int 0])) ∨ q = (z, .inl (g.2.2.1, 99880, .inr (.inl (fun _ => 0)))) ∨ q = (z + 1, .inl (g.2.1, 227, .inl (fun _ => 0))) ∨ q = (z + 2, .inl (g.2.1, 227, .inl (fun _ => 0))) ∨ q = (z + 3, .inl (g.2.1, 24, .inl (upd (upd (upd (upd (upd (upd (upd (upd (upd (upd (upd (upd (upd (upd (upd (upd (upd (upd (upd (upd (upd (upd (fun _ => 0) 0 (-1 : Int32)) 1 (-1 : Int32)) 2 (-1 : Int32)) 3 (-1 : Int32)) 4 (-1 : Int32)) 5 (-1 : Int32)) 6 (-1 : Int32)) 7 (-1 : Int32)) 8 (-1 : Int32)) 9 (-1 : Int32)) 10 (-1 : Int32)) 11 (-1 : Int32)) 12 (-1 : Int32)) 13 (-1 : Int32)) 14 (-1 : Int32)) 15 (-1 : Int32)) 16 (-1 : Int32)) 17 (-1 : Int32)) 18 (-1 : Int32)) 19 (-1 : Int32)) 20 (-1 : Int32)) 21 (-1 : Int32)))) ∨ q = (z + 4, .inl (g.2.1, 6, .inl (fun _ => 0)))) Y hw hS (Or.inr (Nat.le_add_right z _)) (Or.inr (Or.inr (Or.inr (Or.inr (Or.inl rfl))))) 0 rfl (by unfold vp_in; decide) (oX5_init_28 hbz) dX5_init_65 (fun H locs hw hz2 hS => ?_)
  replace hz := hz2.trans hz
  clear hz2
  refine lv_iinc (v := (22 : Int32)) (lv' := [(1, .int (22 : Int32)), (0, .ref b)]) hx hb dX5_init_66 hl (k := 0) rfl (by decide) (by decide) rfl (fun ls hl => ?_)
  refine lv_goto (tgt := 53) hx hb dX5_init_69 (by decide) ?_
  refine lv_iload_n hx hb dX5_init_53 rfl (lv_at hl 0 rfl) ?_
  refine lv_bipush (v := (24 : Int32)) hx hb dX5_init_54 (by decide) ?_
  refine lv_icmp_ge (tgt := 72) hx hb dX5_init_56 (by decide) (fun hc => ?_) (fun hc => ?_)
  · exact absurd hc (by decide)
  clear hc
  refine lv_aload_n hx hb dX5_init_59 rfl (lv_at hl 1 rfl) ?_
  refine n_get (v := .ref (z + 3)) Y hw (Or.inl rfl) rfl inA_X5 3 (by decide) mw_80 rfl dX5_init_60 ?_
  refine lv_iload_n hx hb dX5_init_63 rfl (lv_at hl 0 rfl) ?_
  refine lv_iconst (v := (-1 : Int32)) hx hb dX5_init_64 (by decide) ?_
  refine n_iast (T' := fun q => q = (b, .inr (5, [.ref (z), .ref (z + 1), .ref (z + 2), .ref (z + 3), .int (-1 : Int32), .int 0, .int 0, .int 0, .ref (z + 4), .int 0])) ∨ q = (z, .inl (g.2.2.1, 99880, .inr (.inl (fun _ => 0)))) ∨ q = (z + 1, .inl (g.2.1, 227, .inl (fun _ => 0))) ∨ q = (z + 2, .inl (g.2.1, 227, .inl (fun _ => 0))) ∨ q = (z + 3, .inl (g.2.1, 24, .inl (upd (upd (upd (upd (upd (upd (upd (upd (upd (upd (upd (upd (upd (upd (upd (upd (upd (upd (upd (upd (upd (upd (upd (fun _ => 0) 0 (-1 : Int32)) 1 (-1 : Int32)) 2 (-1 : Int32)) 3 (-1 : Int32)) 4 (-1 : Int32)) 5 (-1 : Int32)) 6 (-1 : Int32)) 7 (-1 : Int32)) 8 (-1 : Int32)) 9 (-1 : Int32)) 10 (-1 : Int32)) 11 (-1 : Int32)) 12 (-1 : Int32)) 13 (-1 : Int32)) 14 (-1 : Int32)) 15 (-1 : Int32)) 16 (-1 : Int32)) 17 (-1 : Int32)) 18 (-1 : Int32)) 19 (-1 : Int32)) 20 (-1 : Int32)) 21 (-1 : Int32)) 22 (-1 : Int32)))) ∨ q = (z + 4, .inl (g.2.1, 6, .inl (fun _ => 0)))) Y hw hS (Or.inr (Nat.le_add_right z _)) (Or.inr (Or.inr (Or.inr (Or.inr (Or.inl rfl))))) 0 rfl (by unfold vp_in; decide) (oX5_init_29 hbz) dX5_init_65 (fun H locs hw hz2 hS => ?_)
  replace hz := hz2.trans hz
  clear hz2
  refine lv_iinc (v := (23 : Int32)) (lv' := [(1, .int (23 : Int32)), (0, .ref b)]) hx hb dX5_init_66 hl (k := 0) rfl (by decide) (by decide) rfl (fun ls hl => ?_)
  refine lv_goto (tgt := 53) hx hb dX5_init_69 (by decide) ?_
  refine lv_iload_n hx hb dX5_init_53 rfl (lv_at hl 0 rfl) ?_
  refine lv_bipush (v := (24 : Int32)) hx hb dX5_init_54 (by decide) ?_
  refine lv_icmp_ge (tgt := 72) hx hb dX5_init_56 (by decide) (fun hc => ?_) (fun hc => ?_)
  · exact absurd hc (by decide)
  clear hc
  refine lv_aload_n hx hb dX5_init_59 rfl (lv_at hl 1 rfl) ?_
  refine n_get (v := .ref (z + 3)) Y hw (Or.inl rfl) rfl inA_X5 3 (by decide) mw_80 rfl dX5_init_60 ?_
  refine lv_iload_n hx hb dX5_init_63 rfl (lv_at hl 0 rfl) ?_
  refine lv_iconst (v := (-1 : Int32)) hx hb dX5_init_64 (by decide) ?_
  refine n_iast (T' := fun q => q = (b, .inr (5, [.ref (z), .ref (z + 1), .ref (z + 2), .ref (z + 3), .int (-1 : Int32), .int 0, .int 0, .int 0, .ref (z + 4), .int 0])) ∨ q = (z, .inl (g.2.2.1, 99880, .inr (.inl (fun _ => 0)))) ∨ q = (z + 1, .inl (g.2.1, 227, .inl (fun _ => 0))) ∨ q = (z + 2, .inl (g.2.1, 227, .inl (fun _ => 0))) ∨ q = (z + 3, .inl (g.2.1, 24, .inl (upd (upd (upd (upd (upd (upd (upd (upd (upd (upd (upd (upd (upd (upd (upd (upd (upd (upd (upd (upd (upd (upd (upd (upd (fun _ => 0) 0 (-1 : Int32)) 1 (-1 : Int32)) 2 (-1 : Int32)) 3 (-1 : Int32)) 4 (-1 : Int32)) 5 (-1 : Int32)) 6 (-1 : Int32)) 7 (-1 : Int32)) 8 (-1 : Int32)) 9 (-1 : Int32)) 10 (-1 : Int32)) 11 (-1 : Int32)) 12 (-1 : Int32)) 13 (-1 : Int32)) 14 (-1 : Int32)) 15 (-1 : Int32)) 16 (-1 : Int32)) 17 (-1 : Int32)) 18 (-1 : Int32)) 19 (-1 : Int32)) 20 (-1 : Int32)) 21 (-1 : Int32)) 22 (-1 : Int32)) 23 (-1 : Int32)))) ∨ q = (z + 4, .inl (g.2.1, 6, .inl (fun _ => 0)))) Y hw hS (Or.inr (Nat.le_add_right z _)) (Or.inr (Or.inr (Or.inr (Or.inr (Or.inl rfl))))) 0 rfl (by unfold vp_in; decide) (oX5_init_30 hbz) dX5_init_65 (fun H locs hw hz2 hS => ?_)
  replace hz := hz2.trans hz
  clear hz2
  refine lv_iinc (v := (24 : Int32)) (lv' := [(1, .int (24 : Int32)), (0, .ref b)]) hx hb dX5_init_66 hl (k := 0) rfl (by decide) (by decide) rfl (fun ls hl => ?_)
  refine lv_goto (tgt := 53) hx hb dX5_init_69 (by decide) ?_
  refine lv_iload_n hx hb dX5_init_53 rfl (lv_at hl 0 rfl) ?_
  refine lv_bipush (v := (24 : Int32)) hx hb dX5_init_54 (by decide) ?_
  refine lv_icmp_ge (tgt := 72) hx hb dX5_init_56 (by decide) (fun hc => ?_) (fun hc => ?_)
  rotate_left
  · exact absurd (by decide) hc
  clear hc
  refine W.widen (k := 5) (n := 100364) (Nat.le_of_ble_eq_true rfl) (Nat.le_of_ble_eq_true rfl) ?_
  exact n_vret Y hr hw hz hS dX5_init_72
