/-! THE REFERENCE'S STATE AND ITS CELLS: code 5000 the object, 5001 limbs, 5002 sizes, 5003 signs, 5004 degrees, 5005 handRow -/
abbrev RS : Type := (Nat → Int64) × (Nat → Int32) × (Nat → Int32) × (Nat → Int32) × (Nat → Int32) × (Nat → Int32)
def rL (ρ : RS) : Nat → Int64 := ρ.1
def rS (ρ : RS) : Nat → Int32 := ρ.2.1
def rG (ρ : RS) : Nat → Int32 := ρ.2.2.1
def rD (ρ : RS) : Nat → Int32 := ρ.2.2.2.1
def rH (ρ : RS) : Nat → Int32 := ρ.2.2.2.2.1
def rK (ρ : RS) : Nat → Int32 := ρ.2.2.2.2.2
def wL (ρ : RS) (i : Int32) (x : Int64) : RS := (vp_updL ρ.1 i.toNatClampNeg x, ρ.2)
def wS (ρ : RS) (i x : Int32) : RS := (ρ.1, upd ρ.2.1 i.toNatClampNeg x, ρ.2.2)
def wG (ρ : RS) (i x : Int32) : RS := (ρ.1, ρ.2.1, upd ρ.2.2.1 i.toNatClampNeg x, ρ.2.2.2)
def wD (ρ : RS) (i x : Int32) : RS := (ρ.1, ρ.2.1, ρ.2.2.1, upd ρ.2.2.2.1 i.toNatClampNeg x, ρ.2.2.2.2)
def wH (ρ : RS) (i x : Int32) : RS := (ρ.1, ρ.2.1, ρ.2.2.1, ρ.2.2.2.1, upd ρ.2.2.2.2.1 i.toNatClampNeg x, ρ.2.2.2.2.2)
def wK (ρ : RS) (k : Nat) (x : Int32) : RS := (ρ.1, ρ.2.1, ρ.2.2.1, ρ.2.2.2.1, ρ.2.2.2.2.1, va_up ρ.2.2.2.2.2 k x)
def okR (k : Nat) : Prop := 5000 ≤ k ∧ k ≤ 5005
def rcell (g : mG) (ρ : RS) (k : Nat) : va_E :=
  if k = 5000 then .inr (5, [.ref (g.1 5001), .ref (g.1 5002), .ref (g.1 5003), .ref (g.1 5004), .int (rK ρ 0), .int (rK ρ 1), .int (rK ρ 2), .int (rK ρ 3), .ref (g.1 5005), .int (rK ρ 4)])
  else if k = 5001 then .inl (g.2.2.1, 99880, .inr (.inl (rL ρ)))
  else if k = 5002 then .inl (g.2.1, 227, .inl (rS ρ))
  else if k = 5003 then .inl (g.2.1, 227, .inl (rG ρ))
  else if k = 5004 then .inl (g.2.1, 24, .inl (rD ρ))
  else .inl (g.2.1, 6, .inl (rH ρ))
def rT (g : mG) (ρ : RS) : Nat × va_E → Prop := fun q => ∃ k, okR k ∧ q = (g.1 k, rcell g ρ k)
theorem rT_upd {g : mG} (hg : inj g) {ρ ρ' : RS} {k0 : Nat} {e : va_E} (he : rcell g ρ' k0 = e) (ho : ∀ k, k ≠ k0 → rcell g ρ' k = rcell g ρ k) : ∀ q, rT g ρ' q → q = (g.1 k0, e) ∨ (rT g ρ q ∧ q.1 ≠ g.1 k0) := by
  rintro q ⟨k, hk, rfl⟩
  by_cases h : k = k0
  · subst h
    exact Or.inl (by rw [he])
  · exact Or.inr ⟨⟨k, hk, by rw [ho k h]⟩, fun e1 => h (hg _ _ e1)⟩
theorem qM {g : mG} {ρ : RS} : rT g ρ (g.1 5000, .inr (5, [.ref (g.1 5001), .ref (g.1 5002), .ref (g.1 5003), .ref (g.1 5004), .int (rK ρ 0), .int (rK ρ 1), .int (rK ρ 2), .int (rK ρ 3), .ref (g.1 5005), .int (rK ρ 4)])) := ⟨5000, ⟨by decide, by decide⟩, rfl⟩
theorem qL {g : mG} {ρ : RS} : rT g ρ (g.1 5001, .inl (g.2.2.1, 99880, .inr (.inl (rL ρ)))) := ⟨5001, ⟨by decide, by decide⟩, rfl⟩
theorem qS {g : mG} {ρ : RS} : rT g ρ (g.1 5002, .inl (g.2.1, 227, .inl (rS ρ))) := ⟨5002, ⟨by decide, by decide⟩, rfl⟩
theorem qG {g : mG} {ρ : RS} : rT g ρ (g.1 5003, .inl (g.2.1, 227, .inl (rG ρ))) := ⟨5003, ⟨by decide, by decide⟩, rfl⟩
theorem qD {g : mG} {ρ : RS} : rT g ρ (g.1 5004, .inl (g.2.1, 24, .inl (rD ρ))) := ⟨5004, ⟨by decide, by decide⟩, rfl⟩
theorem qH {g : mG} {ρ : RS} : rT g ρ (g.1 5005, .inl (g.2.1, 6, .inl (rH ρ))) := ⟨5005, ⟨by decide, by decide⟩, rfl⟩
theorem vL {g : mG} (hg : inj g) {ρ : RS} {i : Int32} {x : Int64} : ∀ q, rT g (wL ρ i x) q → q = (g.1 5001, .inl (g.2.2.1, 99880, .inr (.inl (vp_updL (rL ρ) i.toNatClampNeg x)))) ∨ (rT g ρ q ∧ q.1 ≠ g.1 5001) := by
  refine rT_upd hg rfl ?_
  intro k hk
  unfold rcell
  rw [if_neg (c := k = 5001) hk, if_neg (c := k = 5001) hk]
  rfl
theorem vS {g : mG} (hg : inj g) {ρ : RS} {i : Int32} {x : Int32} : ∀ q, rT g (wS ρ i x) q → q = (g.1 5002, .inl (g.2.1, 227, .inl (upd (rS ρ) i.toNatClampNeg x))) ∨ (rT g ρ q ∧ q.1 ≠ g.1 5002) := by
  refine rT_upd hg rfl ?_
  intro k hk
  unfold rcell
  rw [if_neg (c := k = 5002) hk, if_neg (c := k = 5002) hk]
  rfl
theorem vG {g : mG} (hg : inj g) {ρ : RS} {i : Int32} {x : Int32} : ∀ q, rT g (wG ρ i x) q → q = (g.1 5003, .inl (g.2.1, 227, .inl (upd (rG ρ) i.toNatClampNeg x))) ∨ (rT g ρ q ∧ q.1 ≠ g.1 5003) := by
  refine rT_upd hg rfl ?_
  intro k hk
  unfold rcell
  rw [if_neg (c := k = 5003) hk, if_neg (c := k = 5003) hk]
  rfl
theorem vD {g : mG} (hg : inj g) {ρ : RS} {i : Int32} {x : Int32} : ∀ q, rT g (wD ρ i x) q → q = (g.1 5004, .inl (g.2.1, 24, .inl (upd (rD ρ) i.toNatClampNeg x))) ∨ (rT g ρ q ∧ q.1 ≠ g.1 5004) := by
  refine rT_upd hg rfl ?_
  intro k hk
  unfold rcell
  rw [if_neg (c := k = 5004) hk, if_neg (c := k = 5004) hk]
  rfl
theorem vH {g : mG} (hg : inj g) {ρ : RS} {i : Int32} {x : Int32} : ∀ q, rT g (wH ρ i x) q → q = (g.1 5005, .inl (g.2.1, 6, .inl (upd (rH ρ) i.toNatClampNeg x))) ∨ (rT g ρ q ∧ q.1 ≠ g.1 5005) := by
  rintro q ⟨k, hk, rfl⟩
  by_cases h : k = 5005
  · subst h
    exact Or.inl rfl
  · refine Or.inr ⟨⟨k, hk, ?_⟩, fun e1 => h (hg _ _ e1)⟩
    obtain ⟨h1, h2⟩ := hk
    rcases (show k = 5000 ∨ k = 5001 ∨ k = 5002 ∨ k = 5003 ∨ k = 5004 by omega) with rfl | rfl | rfl | rfl | rfl <;> rfl
theorem vK {g : mG} (hg : inj g) {ρ : RS} {j : Nat} (hj : j ≤ 3) {x : Int32} : ∀ q, rT g (wK ρ j x) q → q = (g.1 5000, .inr (5, [.ref (g.1 5001), .ref (g.1 5002), .ref (g.1 5003), .ref (g.1 5004), .int (rK ρ 0), .int (rK ρ 1), .int (rK ρ 2), .int (rK ρ 3), .ref (g.1 5005), .int (rK ρ 4)].set (j + 4) (.int x))) ∨ (rT g ρ q ∧ q.1 ≠ g.1 5000) := by
  refine rT_upd hg ?_ ?_
  · rcases (show j = 0 ∨ j = 1 ∨ j = 2 ∨ j = 3 by omega) with rfl | rfl | rfl | rfl <;> rfl
  · intro k hk
    unfold rcell
    rw [if_neg (c := k = 5000) hk, if_neg (c := k = 5000) hk]
    rfl
theorem vK4 {g : mG} (hg : inj g) {ρ : RS} {x : Int32} : ∀ q, rT g (wK ρ 4 x) q → q = (g.1 5000, .inr (5, [.ref (g.1 5001), .ref (g.1 5002), .ref (g.1 5003), .ref (g.1 5004), .int (rK ρ 0), .int (rK ρ 1), .int (rK ρ 2), .int (rK ρ 3), .ref (g.1 5005), .int (rK ρ 4)].set 9 (.int x))) ∨ (rT g ρ q ∧ q.1 ≠ g.1 5000) := by
  refine rT_upd hg ?_ ?_
  · rfl
  · intro k hk
    unfold rcell
    rw [if_neg (c := k = 5000) hk, if_neg (c := k = 5000) hk]
    rfl
