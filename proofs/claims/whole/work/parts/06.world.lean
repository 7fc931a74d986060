/-! THE CLASS'S STATE AND ITS CELLS. A Whole is a number w: 16 p + i for term i of the Poly p; 320 .. 323 the bench's one .. four; 324 .. 327 the chain's lead, height, power, next. A Poly is a number p: 0 .. 7 the registers, 8 work, 9 part, 10 + i link i. A cell has a code: 4 w the Whole, 4 w + 1 its digits, 4 p + 2 the Poly, 4 p + 3 its terms; 2002 the bench, 2006 the chain, 2010 the object itself, 2003 the links, 2007 the registers; g.1 gives the address of a code. -/
abbrev mG : Type := (Nat → Nat) × ClassId × ClassId × ClassId × ClassId
def inj (g : mG) : Prop := ∀ i j : Nat, g.1 i = g.1 j → i = j
def tyG (g : mG) : List (ClassId × FieldType) := [(g.2.1, .int), (g.2.2.1, .long), (g.2.2.2.1, .object RX3), (g.2.2.2.2, .object RX2)]
abbrev CS : Type := (Nat → Nat → Int32) × (Nat → Int32) × (Nat → Int32) × (Nat → Int32) × (Nat → Int32)
def cF (σ : CS) (w : Nat) : Nat → Int32 := σ.1 w
def cS (σ : CS) (w : Nat) : Int32 := σ.2.1 w
def cG (σ : CS) (w : Nat) : Int32 := σ.2.2.1 w
def cD (σ : CS) (p : Nat) : Int32 := σ.2.2.2.1 p
def cK (σ : CS) (k : Nat) : Int32 := σ.2.2.2.2 k
def sF (σ : CS) (w : Nat) (f : Nat → Int32) : CS := (va_up σ.1 w f, σ.2)
def sS (σ : CS) (w : Nat) (v : Int32) : CS := (σ.1, va_up σ.2.1 w v, σ.2.2)
def sG (σ : CS) (w : Nat) (v : Int32) : CS := (σ.1, σ.2.1, va_up σ.2.2.1 w v, σ.2.2.2)
def sD (σ : CS) (p : Nat) (v : Int32) : CS := (σ.1, σ.2.1, σ.2.2.1, va_up σ.2.2.2.1 p v, σ.2.2.2.2)
def sK (σ : CS) (k : Nat) (v : Int32) : CS := (σ.1, σ.2.1, σ.2.2.1, σ.2.2.2.1, va_up σ.2.2.2.2 k v)
def tlen (p : Nat) : Nat := min 9 (20 - p)
def capW (w : Nat) : Nat := if w < 128 then 6 else if w < 144 then 300 else if w < 160 then 60 else if w < 320 then 100 else if w = 324 ∨ w = 325 then 100 else 300
def okW (w : Nat) : Prop := w < 328 ∧ (w < 320 → w % 16 < tlen (w / 16))
def okC (k : Nat) : Prop := (k % 4 = 0 ∧ okW (k / 4)) ∨ (k % 4 = 1 ∧ okW (k / 4)) ∨ (k % 4 = 2 ∧ k / 4 < 20) ∨ (k % 4 = 3 ∧ k / 4 < 20) ∨ k = 2002 ∨ k = 2006 ∨ k = 2010 ∨ k = 2003 ∨ k = 2007
def cellC (g : mG) (σ : CS) (k : Nat) : va_E :=
  if k % 4 = 0 then .inr (3, [.ref (g.1 (k + 1)), .int (cS σ (k / 4)), .int (cG σ (k / 4))])
  else if k % 4 = 1 then .inl (g.2.1, capW (k / 4), .inl (cF σ (k / 4)))
  else if k = 2002 then .inr (0, [.ref (g.1 34), .ref (g.1 38), .ref (g.1 1280), .ref (g.1 1284), .ref (g.1 1288), .ref (g.1 1292)])
  else if k = 2006 then .inr (1, [.ref (g.1 2002), .ref (g.1 2003), .ref (g.1 1296), .ref (g.1 1300), .ref (g.1 1304), .ref (g.1 1308), .int (cK σ 0)])
  else if k = 2010 then .inr (4, [.ref (g.1 2007), .ref (g.1 2002), .ref (g.1 2006), .int (cK σ 1), .int (cK σ 2), .int (cK σ 3), .int (cK σ 4)])
  else if k = 2003 then .inl (g.2.2.2.2, 10, .inr (.inr (.inr (.inr (fun i => some (g.1 (4 * (10 + i) + 2)))))))
  else if k = 2007 then .inl (g.2.2.2.2, 8, .inr (.inr (.inr (.inr (fun i => some (g.1 (4 * i + 2)))))))
  else if k % 4 = 2 then .inr (2, [.ref (g.1 (k + 1)), .int (cD σ (k / 4))])
  else .inl (g.2.2.2.1, tlen (k / 4), .inr (.inr (.inr (.inr (fun i => some (g.1 (4 * (16 * (k / 4) + i))))))))
theorem cell_W (g : mG) (σ : CS) (w : Nat) : cellC g σ (4 * w) = .inr (3, [.ref (g.1 (4 * w + 1)), .int (cS σ w), .int (cG σ w)]) := by
  have h : 4 * w / 4 = w := by omega
  unfold cellC
  rw [if_pos (by omega), h]
theorem cell_D (g : mG) (σ : CS) (w : Nat) : cellC g σ (4 * w + 1) = .inl (g.2.1, capW w, .inl (cF σ w)) := by
  have h : (4 * w + 1) / 4 = w := by omega
  unfold cellC
  rw [if_neg (by omega), if_pos (by omega), h]
theorem cell_P (g : mG) (σ : CS) (p : Nat) (hp : p < 20) : cellC g σ (4 * p + 2) = .inr (2, [.ref (g.1 (4 * p + 3)), .int (cD σ p)]) := by
  have h : (4 * p + 2) / 4 = p := by omega
  unfold cellC
  rw [if_neg (by omega), if_neg (by omega), if_neg (by omega), if_neg (by omega), if_neg (by omega), if_neg (by omega), if_neg (by omega), if_pos (by omega), h]
theorem cell_T (g : mG) (σ : CS) (p : Nat) (hp : p < 20) : cellC g σ (4 * p + 3) = .inl (g.2.2.2.1, tlen p, .inr (.inr (.inr (.inr (fun i => some (g.1 (4 * (16 * p + i)))))))) := by
  have h : (4 * p + 3) / 4 = p := by omega
  unfold cellC
  rw [if_neg (by omega), if_neg (by omega), if_neg (by omega), if_neg (by omega), if_neg (by omega), if_neg (by omega), if_neg (by omega), if_neg (by omega), h]
def cT (g : mG) (σ : CS) : Nat × va_E → Prop := fun q => ∃ k, okC k ∧ q = (g.1 k, cellC g σ k)
theorem tW {g : mG} {σ : CS} {w : Nat} (h : okW w) : cT g σ (g.1 (4 * w), .inr (3, [.ref (g.1 (4 * w + 1)), .int (cS σ w), .int (cG σ w)])) :=
  ⟨4 * w, Or.inl ⟨by omega, by rw [show 4 * w / 4 = w by omega]; exact h⟩, by rw [cell_W]⟩
theorem tD {g : mG} {σ : CS} {w : Nat} (h : okW w) : cT g σ (g.1 (4 * w + 1), .inl (g.2.1, capW w, .inl (cF σ w))) :=
  ⟨4 * w + 1, Or.inr (Or.inl ⟨by omega, by rw [show (4 * w + 1) / 4 = w by omega]; exact h⟩), by rw [cell_D]⟩
theorem tP {g : mG} {σ : CS} {p : Nat} (h : p < 20) : cT g σ (g.1 (4 * p + 2), .inr (2, [.ref (g.1 (4 * p + 3)), .int (cD σ p)])) :=
  ⟨4 * p + 2, Or.inr (Or.inr (Or.inl ⟨by omega, by omega⟩)), by rw [cell_P _ _ _ h]⟩
theorem tT {g : mG} {σ : CS} {p : Nat} (h : p < 20) : cT g σ (g.1 (4 * p + 3), .inl (g.2.2.2.1, tlen p, .inr (.inr (.inr (.inr (fun i => some (g.1 (4 * (16 * p + i))))))))) :=
  ⟨4 * p + 3, Or.inr (Or.inr (Or.inr (Or.inl ⟨by omega, by omega⟩))), by rw [cell_T _ _ _ h]⟩
theorem tB {g : mG} {σ : CS} : cT g σ (g.1 2002, .inr (0, [.ref (g.1 34), .ref (g.1 38), .ref (g.1 1280), .ref (g.1 1284), .ref (g.1 1288), .ref (g.1 1292)])) := ⟨2002, Or.inr (Or.inr (Or.inr (Or.inr (Or.inl rfl)))), rfl⟩
theorem tC {g : mG} {σ : CS} : cT g σ (g.1 2006, .inr (1, [.ref (g.1 2002), .ref (g.1 2003), .ref (g.1 1296), .ref (g.1 1300), .ref (g.1 1304), .ref (g.1 1308), .int (cK σ 0)])) := ⟨2006, Or.inr (Or.inr (Or.inr (Or.inr (Or.inr (Or.inl rfl))))), rfl⟩
theorem tG {g : mG} {σ : CS} : cT g σ (g.1 2010, .inr (4, [.ref (g.1 2007), .ref (g.1 2002), .ref (g.1 2006), .int (cK σ 1), .int (cK σ 2), .int (cK σ 3), .int (cK σ 4)])) := ⟨2010, Or.inr (Or.inr (Or.inr (Or.inr (Or.inr (Or.inr (Or.inl rfl)))))), rfl⟩
theorem tL {g : mG} {σ : CS} : cT g σ (g.1 2003, .inl (g.2.2.2.2, 10, .inr (.inr (.inr (.inr (fun i => some (g.1 (4 * (10 + i) + 2)))))))) := ⟨2003, Or.inr (Or.inr (Or.inr (Or.inr (Or.inr (Or.inr (Or.inr (Or.inl rfl))))))), rfl⟩
theorem tR {g : mG} {σ : CS} : cT g σ (g.1 2007, .inl (g.2.2.2.2, 8, .inr (.inr (.inr (.inr (fun i => some (g.1 (4 * i + 2)))))))) := ⟨2007, Or.inr (Or.inr (Or.inr (Or.inr (Or.inr (Or.inr (Or.inr (Or.inr rfl))))))), rfl⟩
theorem cT_upd {g : mG} (hg : inj g) {σ σ' : CS} {k0 : Nat} {e : va_E} (he : cellC g σ' k0 = e) (ho : ∀ k, k ≠ k0 → cellC g σ' k = cellC g σ k) : ∀ q, cT g σ' q → q = (g.1 k0, e) ∨ (cT g σ q ∧ q.1 ≠ g.1 k0) := by
  rintro q ⟨k, hk, rfl⟩
  by_cases h : k = k0
  · subst h
    exact Or.inl (by rw [he])
  · exact Or.inr ⟨⟨k, hk, by rw [ho k h]⟩, fun e1 => h (hg _ _ e1)⟩
theorem up_ne {α : Type} {f : Nat → α} {k j : Nat} {v : α} (h : j ≠ k) : va_up f k v j = f j := by simp [va_up, h]
theorem up_eq {α : Type} {f : Nat → α} {k : Nat} {v : α} : va_up f k v k = v := by simp [va_up]
theorem uS {g : mG} (hg : inj g) {σ : CS} {w : Nat} {v : Int32} : ∀ q, cT g (sS σ w v) q → q = (g.1 (4 * w), .inr (3, [.ref (g.1 (4 * w + 1)), .int (cS σ w), .int (cG σ w)].set 1 (.int v))) ∨ (cT g σ q ∧ q.1 ≠ g.1 (4 * w)) := by
  refine cT_upd hg ?_ ?_
  · rw [cell_W]
    show Sum.inr (3, [_, Value.int (va_up σ.2.1 w v w), _]) = _
    rw [up_eq]
    rfl
  · intro k hk
    have e : k % 4 = 0 → cS (sS σ w v) (k / 4) = cS σ (k / 4) := fun h0 => up_ne (f := σ.2.1) (by omega)
    unfold cellC
    by_cases h0 : k % 4 = 0
    · rw [if_pos h0, if_pos h0, e h0]
      rfl
    · rw [if_neg h0, if_neg h0]
      rfl
theorem uG {g : mG} (hg : inj g) {σ : CS} {w : Nat} {v : Int32} : ∀ q, cT g (sG σ w v) q → q = (g.1 (4 * w), .inr (3, [.ref (g.1 (4 * w + 1)), .int (cS σ w), .int (cG σ w)].set 2 (.int v))) ∨ (cT g σ q ∧ q.1 ≠ g.1 (4 * w)) := by
  refine cT_upd hg ?_ ?_
  · rw [cell_W]
    show Sum.inr (3, [_, _, Value.int (va_up σ.2.2.1 w v w)]) = _
    rw [up_eq]
    rfl
  · intro k hk
    have e : k % 4 = 0 → cG (sG σ w v) (k / 4) = cG σ (k / 4) := fun h0 => up_ne (f := σ.2.2.1) (by omega)
    unfold cellC
    by_cases h0 : k % 4 = 0
    · rw [if_pos h0, if_pos h0, e h0]
      rfl
    · rw [if_neg h0, if_neg h0]
      rfl
theorem uF {g : mG} (hg : inj g) {σ : CS} {w : Nat} {f : Nat → Int32} : ∀ q, cT g (sF σ w f) q → q = (g.1 (4 * w + 1), .inl (g.2.1, capW w, .inl f)) ∨ (cT g σ q ∧ q.1 ≠ g.1 (4 * w + 1)) := by
  refine cT_upd hg ?_ ?_
  · rw [cell_D]
    show Sum.inl (_, _, Sum.inl (va_up σ.1 w f w)) = _
    rw [up_eq]
  · intro k hk
    have e : k % 4 = 1 → cF (sF σ w f) (k / 4) = cF σ (k / 4) := fun h0 => up_ne (f := σ.1) (by omega)
    unfold cellC
    by_cases h0 : k % 4 = 1
    · rw [if_neg (c := k % 4 = 0) (by omega), if_neg (c := k % 4 = 0) (by omega), if_pos h0, if_pos h0, e h0]
    · rw [if_neg h0, if_neg h0]
      rfl
theorem uD {g : mG} (hg : inj g) {σ : CS} {p : Nat} (hp : p < 20) {v : Int32} : ∀ q, cT g (sD σ p v) q → q = (g.1 (4 * p + 2), .inr (2, [.ref (g.1 (4 * p + 3)), .int (cD σ p)].set 1 (.int v))) ∨ (cT g σ q ∧ q.1 ≠ g.1 (4 * p + 2)) := by
  refine cT_upd hg ?_ ?_
  · rw [cell_P _ _ _ hp]
    show Sum.inr (2, [_, Value.int (va_up σ.2.2.2.1 p v p)]) = _
    rw [up_eq]
    rfl
  · intro k hk
    have e : k % 4 = 2 → cD (sD σ p v) (k / 4) = cD σ (k / 4) := fun h0 => up_ne (f := σ.2.2.2.1) (by omega)
    unfold cellC
    by_cases h0 : k % 4 = 2
    · rw [e h0]
      rfl
    · rw [if_neg (c := k % 4 = 2) h0, if_neg (c := k % 4 = 2) h0]
      rfl
theorem uK0 {g : mG} (hg : inj g) {σ : CS} {v : Int32} : ∀ q, cT g (sK σ 0 v) q → q = (g.1 2006, .inr (1, [.ref (g.1 2002), .ref (g.1 2003), .ref (g.1 1296), .ref (g.1 1300), .ref (g.1 1304), .ref (g.1 1308), .int (cK σ 0)].set 6 (.int v))) ∨ (cT g σ q ∧ q.1 ≠ g.1 2006) := by
  refine cT_upd hg ?_ ?_
  · rfl
  · intro k hk
    unfold cellC
    rw [if_neg (c := k = 2006) hk, if_neg (c := k = 2006) hk]
    rfl
theorem uK {g : mG} (hg : inj g) {σ : CS} {j : Nat} (hj : 1 ≤ j ∧ j ≤ 4) {v : Int32} : ∀ q, cT g (sK σ j v) q → q = (g.1 2010, .inr (4, [.ref (g.1 2007), .ref (g.1 2002), .ref (g.1 2006), .int (cK σ 1), .int (cK σ 2), .int (cK σ 3), .int (cK σ 4)].set (j + 2) (.int v))) ∨ (cT g σ q ∧ q.1 ≠ g.1 2010) := by
  refine cT_upd hg ?_ ?_
  · rcases (show j = 1 ∨ j = 2 ∨ j = 3 ∨ j = 4 by omega) with rfl | rfl | rfl | rfl <;> rfl
  · intro k hk
    have e : cK (sK σ j v) 0 = cK σ 0 := up_ne (f := σ.2.2.2.2) (by omega)
    unfold cellC
    rw [if_neg (c := k = 2010) hk, if_neg (c := k = 2010) hk, e]
    rfl
theorem okW_t {p : Nat} {i : Int32} (hp : p < 20) (hi : vp_in i (tlen p)) : okW (16 * p + i.toNatClampNeg) := by
  have h1 : i.toNatClampNeg < tlen p := Nat.not_le.mp fun q => hi (Or.inr q)
  have h2 : tlen p ≤ 9 := Nat.min_le_left _ _
  have h3 : (16 * p + i.toNatClampNeg) / 16 = p := by omega
  refine ⟨by omega, fun _ => ?_⟩
  rw [h3]
  omega
theorem okP_l {i : Int32} (hi : vp_in i 10) : 10 + i.toNatClampNeg < 20 := by
  have h1 : i.toNatClampNeg < 10 := Nat.not_le.mp fun q => hi (Or.inr q)
  omega
theorem okP_r {i : Int32} (hi : vp_in i 8) : i.toNatClampNeg < 20 := by
  have h1 : i.toNatClampNeg < 8 := Nat.not_le.mp fun q => hi (Or.inr q)
  omega
theorem okW_b {w : Nat} (h : 320 ≤ w ∧ w < 328) : okW w := ⟨h.2, fun q => absurd q (by omega)⟩
