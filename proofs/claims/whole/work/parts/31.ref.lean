/-! BigPolysModel.at(II)I -/
def rmX5_at : Room := { frames := 0, cells := 0, slots := 0, locals := 0 }
def wpX5_at_0 (x1 : Int32) (x2 : Int32) (Q : Int32 → RS → Prop) (σ : RS) : Prop :=
  Q (((9 : Int32) * x1) + x2) σ
set_option maxRecDepth 100000 in
set_option maxHeartbeats 4000000 in
theorem wX5_at_0 {p : Program} {l : Launch} {e : Env} {s : State} {m : MethodId} {args : Array Value} {below : List Frame} {meth : Method} {c : Code} {D : va_G} {A : Nat → Prop} {g : mG} (hg : inj g) {x1 : Int32} {x2 : Int32} (X : cx p m meth c s args cX5_at 2 RX5 D (tyG g)) (hr : meth.sig.returnType = (some .int)) {Q : Int32 → RS → Prop} : ∀ (σ : RS), wpX5_at_0 x1 x2 Q σ → cW p l e rmX5_at s m args below meth c (MQ below (va_Qi Q (fun u t => wd D A (rT g u) t.heap) A) args s 0 0 A) D A (rT g σ) 0 2 [(0, .int x1), (1, .int x2)] := by
  obtain ⟨hx, hb, hml, hown, hts, hK, hlk⟩ := id X
  intro σ h H locs ls hw hS hl
  unfold wpX5_at_0 at h
  refine lv_bipush (v := (9 : Int32)) hx hb dX5_at_0 (by decide) ?_
  refine lv_iload_n hx hb dX5_at_2 rfl (lv_at hl 0 rfl) ?_
  refine lv_imul hx hb dX5_at_3 ?_
  refine lv_iload_n hx hb dX5_at_4 rfl (lv_at hl 1 rfl) ?_
  refine lv_iadd hx hb dX5_at_5 ?_
  exact m_iret X hr hw hS h dX5_at_6
def wpX5_at (x1 : Int32) (x2 : Int32) (σ : RS) (Q : Int32 → RS → Prop) : Prop := wpX5_at_0 x1 x2 Q σ
theorem kX5_at {l : Launch} {D : va_G} {A : Nat → Prop} {g : mG} (hg : inj g) {x1 : Int32} {x2 : Int32} {σ : RS} {Q : Int32 → RS → Prop} (h : wpX5_at x1 x2 σ Q) : Met l yX5_at (Cond.code yX5_at cX5_at 2 (some .int) :: wsA) rmX5_at (mPc D (tyG g) A (rT g σ) [.int x1, .int x2]) (va_Qi Q (fun u t => wd D A (rT g u) t.heap) A) 0 0 A :=
  m_met (by decide +kernel) (Nat.le_of_ble_eq_true rfl) (fun p e s m below meth c X hr H locs ls hw hS hl => wX5_at_0 hg X hr σ h H locs ls hw hS (lv_sub hl [0, 1] rfl))
theorem fX5_at : sfit yX5_at cX5_at 2 (some .int) 2 := ⟨mw_120, mw_5, mw_121, by decide +kernel, by decide +kernel, by decide +kernel⟩
/-! BigPolysModel.measure(I)V -/
def rmX5_measure : Room := { frames := 1, cells := 0, slots := 0, locals := 21 }
def wbX5_measure_8 (x1 : Int32) (Q : RS → Prop) (N8 : RS → Prop) (σ : RS) : Prop :=
  vp_in x1 24 ∧ (
  ((rD σ x1.toNatClampNeg) < 0 →
    Q σ) ∧
  (¬ (rD σ x1.toNatClampNeg) < 0 →
    vp_in x1 24 ∧ (
    wpX5_at x1 (rD σ x1.toNatClampNeg) σ (fun (r1 : Int32) (σ2 : RS) =>
      vp_in r1 227 ∧ (
      (¬ (rG σ2 r1.toNatClampNeg) = 0 →
        Q σ2) ∧
      ((rG σ2 r1.toNatClampNeg) = 0 →
        vp_in x1 24 ∧ (
        vp_in x1 24 ∧ (
        N8 (wD σ2 x1 ((rD σ2 x1.toNatClampNeg) - (1 : Int32)))))))))))
set_option maxRecDepth 100000 in
set_option maxHeartbeats 4000000 in
theorem wX5_measure_8 {p : Program} {l : Launch} {e : Env} {s : State} {m : MethodId} {args : Array Value} {below : List Frame} {meth : Method} {c : Code} {D : va_G} {A : Nat → Prop} {g : mG} (hg : inj g) {x1 : Int32} (X : cx p m meth c s args cX5_measure 2 RX5 D (tyG g)) (hr : meth.sig.returnType = none) {Q : RS → Prop} : ∀ (n : Nat) (σ : RS), lq1 (wbX5_measure_8 x1 Q) n σ → cW p l e rmX5_measure s m args below meth c (MQ below (va_Qv Q (fun u t => wd D A (rT g u) t.heap) A) args s 0 0 A) D A (rT g σ) 8 2 [(0, .ref (g.1 5000)), (1, .int x1)] := by
  obtain ⟨hx, hb, hml, hown, hts, hK, hlk⟩ := id X
  intro n
  induction n with
  | zero =>
    intro σ h
    exact h.elim
  | succ n hN8 =>
    intro σ h H locs ls hw hS hl
    replace h : wbX5_measure_8 x1 Q (lq1 (wbX5_measure_8 x1 Q) n) σ := h
    unfold wbX5_measure_8 at h
    refine lv_aload_n hx hb dX5_measure_8 rfl (lv_at hl 0 rfl) ?_
    refine m_get (v := .ref (g.1 5004)) X hw qM rfl inA_X5 3 (by decide) mw_80 rfl dX5_measure_9 ?_
    refine lv_iload_n hx hb dX5_measure_12 rfl (lv_at hl 1 rfl) ?_
    obtain ⟨hi, h⟩ := h
    refine m_iald X hw qD 0 rfl hi dX5_measure_13 ?_
    refine lv_if_lt (tgt := 48) hx hb dX5_measure_14 (by decide) (fun hc => ?_) (fun hc => ?_)
    · replace h := h.1 hc
      exact m_vret X hr hw hS h dX5_measure_48
    · replace h := h.2 hc
      refine lv_aload_n hx hb dX5_measure_17 rfl (lv_at hl 0 rfl) ?_
      refine m_get (v := .ref (g.1 5003)) X hw qM rfl inA_X5 2 (by decide) mw_79 rfl dX5_measure_18 ?_
      refine lv_iload_n hx hb dX5_measure_21 rfl (lv_at hl 1 rfl) ?_
      refine lv_aload_n hx hb dX5_measure_22 rfl (lv_at hl 0 rfl) ?_
      refine m_get (v := .ref (g.1 5004)) X hw qM rfl inA_X5 3 (by decide) mw_80 rfl dX5_measure_23 ?_
      refine lv_iload_n hx hb dX5_measure_26 rfl (lv_at hl 1 rfl) ?_
      obtain ⟨hi, h⟩ := h
      refine m_iald X hw qD 0 rfl hi dX5_measure_27 ?_
      refine m_cSi (TT := rT g) (As := [.int x1, .int (rD σ x1.toNatClampNeg)]) (rest := [.ref (g.1 5003)]) X hl.1 hw hS (kX5_at hg h) mw_119 fX5_at ⟨rfl, rfl, Nat.le_of_ble_eq_true rfl, Nat.le_of_ble_eq_true rfl⟩ rfl rfl (Nat.le_of_ble_eq_true rfl) dX5_measure_28 (fun r1 σ2 H locs h hw hS => ?_)
      obtain ⟨hi, h⟩ := h
      refine m_iald X hw qG 0 rfl hi dX5_measure_31 ?_
      refine lv_if_ne (tgt := 48) hx hb dX5_measure_32 (by decide) (fun hc => ?_) (fun hc => ?_)
      · replace h := h.1 hc
        exact m_vret X hr hw hS h dX5_measure_48
      · replace h := h.2 hc
        refine lv_aload_n hx hb dX5_measure_35 rfl (lv_at hl 0 rfl) ?_
        refine m_get (v := .ref (g.1 5004)) X hw qM rfl inA_X5 3 (by decide) mw_80 rfl dX5_measure_36 ?_
        refine lv_iload_n hx hb dX5_measure_39 rfl (lv_at hl 1 rfl) ?_
        refine lv_dup2_11 hx hb dX5_measure_40 rfl rfl ?_
        obtain ⟨hi, h⟩ := h
        refine m_iald X hw qD 0 rfl hi dX5_measure_41 ?_
        refine lv_iconst (v := (1 : Int32)) hx hb dX5_measure_42 (by decide) ?_
        refine lv_isub hx hb dX5_measure_43 ?_
        obtain ⟨hi, h⟩ := h
        refine m_iast (T' := rT g (wD σ2 x1 ((rD σ2 x1.toNatClampNeg) - (1 : Int32)))) X hw hS qD 0 rfl hi (vD hg) dX5_measure_44 (fun H locs hw hS => ?_)
        refine lv_goto (tgt := 8) hx hb dX5_measure_45 (by decide) ?_
        exact hN8 _ h H locs ls hw hS (lv_sub hl [0, 1] rfl)
def wpX5_measure_0 (x1 : Int32) (Q : RS → Prop) (σ : RS) : Prop :=
  vp_in x1 24 ∧ (
  ∃ n, lq1 (wbX5_measure_8 x1 Q) n (wD σ x1 (8 : Int32)))
set_option maxRecDepth 100000 in
set_option maxHeartbeats 4000000 in
theorem wX5_measure_0 {p : Program} {l : Launch} {e : Env} {s : State} {m : MethodId} {args : Array Value} {below : List Frame} {meth : Method} {c : Code} {D : va_G} {A : Nat → Prop} {g : mG} (hg : inj g) {x1 : Int32} (X : cx p m meth c s args cX5_measure 2 RX5 D (tyG g)) (hr : meth.sig.returnType = none) {Q : RS → Prop} : ∀ (σ : RS), wpX5_measure_0 x1 Q σ → cW p l e rmX5_measure s m args below meth c (MQ below (va_Qv Q (fun u t => wd D A (rT g u) t.heap) A) args s 0 0 A) D A (rT g σ) 0 2 [(0, .ref (g.1 5000)), (1, .int x1)] := by
  obtain ⟨hx, hb, hml, hown, hts, hK, hlk⟩ := id X
  intro σ h H locs ls hw hS hl
  unfold wpX5_measure_0 at h
  refine lv_aload_n hx hb dX5_measure_0 rfl (lv_at hl 0 rfl) ?_
  refine m_get (v := .ref (g.1 5004)) X hw qM rfl inA_X5 3 (by decide) mw_80 rfl dX5_measure_1 ?_
  refine lv_iload_n hx hb dX5_measure_4 rfl (lv_at hl 1 rfl) ?_
  refine lv_bipush (v := (8 : Int32)) hx hb dX5_measure_5 (by decide) ?_
  obtain ⟨hi, h⟩ := h
  refine m_iast (T' := rT g (wD σ x1 (8 : Int32))) X hw hS qD 0 rfl hi (vD hg) dX5_measure_7 (fun H locs hw hS => ?_)
  obtain ⟨n9, h⟩ := h
  exact wX5_measure_8 hg X hr n9 _ h H locs ls hw hS (lv_sub hl [0, 1] rfl)
def wpX5_measure (x1 : Int32) (σ : RS) (Q : RS → Prop) : Prop := wpX5_measure_0 x1 Q σ
theorem kX5_measure {l : Launch} {D : va_G} {A : Nat → Prop} {g : mG} (hg : inj g) {x1 : Int32} {σ : RS} {Q : RS → Prop} (h : wpX5_measure x1 σ Q) : Met l yX5_measure (Cond.code yX5_measure cX5_measure 2 none :: wsA) rmX5_measure (mPc D (tyG g) A (rT g σ) [.ref (g.1 5000), .int x1]) (va_Qv Q (fun u t => wd D A (rT g u) t.heap) A) 0 0 A :=
  m_met (by decide +kernel) (Nat.le_of_ble_eq_true rfl) (fun p e s m below meth c X hr H locs ls hw hS hl => wX5_measure_0 hg X hr σ h H locs ls hw hS (lv_sub hl [0, 1] rfl))
theorem fX5_measure : vfit yX5_measure cX5_measure 2 none 1 := ⟨mw_127, mw_128, mw_5, mw_129, by decide +kernel, by decide +kernel, by decide +kernel⟩
/-! BigPolysModel.clear(I)V -/
def rmX5_clear : Room := { frames := 1, cells := 0, slots := 0, locals := 21 }
def wbX5_clear_2 (x1 : Int32) (Q : RS → Prop) (N2 : Int32 → RS → Prop) (i2 : Int32) (σ : RS) : Prop :=
  ((9 : Int32) ≤ i2 →
    vp_in x1 24 ∧ (
    Q (wD σ x1 (-1 : Int32)))) ∧
  (¬ (9 : Int32) ≤ i2 →
    wpX5_at x1 i2 σ (fun (r1 : Int32) (σ2 : RS) =>
      wpX5_zero r1 σ2 (fun (σ4 : RS) =>
        ∀ a5 : Int32, a5 = i2 + (1 : Int32) →
        N2 a5 σ4)))
set_option maxRecDepth 100000 in
set_option maxHeartbeats 4000000 in
theorem wX5_clear_2 {p : Program} {l : Launch} {e : Env} {s : State} {m : MethodId} {args : Array Value} {below : List Frame} {meth : Method} {c : Code} {D : va_G} {A : Nat → Prop} {g : mG} (hg : inj g) {x1 : Int32} (X : cx p m meth c s args cX5_clear 3 RX5 D (tyG g)) (hr : meth.sig.returnType = none) {Q : RS → Prop} : ∀ (n : Nat) (i2 : Int32) (σ : RS), lq2 (wbX5_clear_2 x1 Q) n i2 σ → cW p l e rmX5_clear s m args below meth c (MQ below (va_Qv Q (fun u t => wd D A (rT g u) t.heap) A) args s 0 0 A) D A (rT g σ) 2 3 [(0, .ref (g.1 5000)), (1, .int x1), (2, .int i2)] := by
  obtain ⟨hx, hb, hml, hown, hts, hK, hlk⟩ := id X
  intro n
  induction n with
  | zero =>
    intro i2 σ h
    exact h.elim
  | succ n hN2 =>
    intro i2 σ h H locs ls hw hS hl
    replace h : wbX5_clear_2 x1 Q (lq2 (wbX5_clear_2 x1 Q) n) i2 σ := h
    unfold wbX5_clear_2 at h
    refine lv_iload_n hx hb dX5_clear_2 rfl (lv_at hl 2 rfl) ?_
    refine lv_bipush (v := (9 : Int32)) hx hb dX5_clear_3 (by decide) ?_
    refine lv_icmp_ge (tgt := 23) hx hb dX5_clear_5 (by decide) (fun hc => ?_) (fun hc => ?_)
    · replace h := h.1 hc
      refine lv_aload_n hx hb dX5_clear_23 rfl (lv_at hl 0 rfl) ?_
      refine m_get (v := .ref (g.1 5004)) X hw qM rfl inA_X5 3 (by decide) mw_80 rfl dX5_clear_24 ?_
      refine lv_iload_n hx hb dX5_clear_27 rfl (lv_at hl 1 rfl) ?_
      refine lv_iconst (v := (-1 : Int32)) hx hb dX5_clear_28 (by decide) ?_
      obtain ⟨hi, h⟩ := h
      refine m_iast (T' := rT g (wD σ x1 (-1 : Int32))) X hw hS qD 0 rfl hi (vD hg) dX5_clear_29 (fun H locs hw hS => ?_)
      exact m_vret X hr hw hS h dX5_clear_30
    · replace h := h.2 hc
      refine lv_aload_n hx hb dX5_clear_8 rfl (lv_at hl 0 rfl) ?_
      refine lv_iload_n hx hb dX5_clear_9 rfl (lv_at hl 1 rfl) ?_
      refine lv_iload_n hx hb dX5_clear_10 rfl (lv_at hl 2 rfl) ?_
      refine m_cSi (TT := rT g) (As := [.int x1, .int i2]) (rest := [.ref (g.1 5000)]) X hl.1 hw hS (kX5_at hg h) mw_119 fX5_at ⟨rfl, rfl, Nat.le_of_ble_eq_true rfl, Nat.le_of_ble_eq_true rfl⟩ rfl rfl (Nat.le_of_ble_eq_true rfl) dX5_clear_11 (fun r1 σ2 H locs h hw hS => ?_)
      refine m_cVv (TT := rT g) (As := [.int r1]) (rest := []) X hl.1 hw hS (kX5_zero hg h) mw_122 fX5_zero qM rfl rfl ⟨rfl, rfl, Nat.le_of_ble_eq_true rfl, Nat.le_of_ble_eq_true rfl⟩ rfl rfl (Nat.le_of_ble_eq_true rfl) dX5_clear_14 (fun σ4 H locs h hw hS => ?_)
      obtain ⟨a5, ea5⟩ : ∃ z : Int32, z = i2 + (1 : Int32) := ⟨_, rfl⟩
      replace h := h a5 ea5
      refine lv_iinc (v := a5) (lv' := [(2, .int a5), (0, .ref (g.1 5000)), (1, .int x1)]) hx hb dX5_clear_17 hl (k := 2) rfl (by rw [ea5]; rfl) (by decide) rfl (fun ls hl => ?_)
      refine lv_goto (tgt := 2) hx hb dX5_clear_20 (by decide) ?_
      exact hN2 a5 _ h H locs ls hw hS (lv_sub hl [1, 2, 0] rfl)
def wpX5_clear_0 (x1 : Int32) (Q : RS → Prop) (σ : RS) : Prop :=
  ∃ n, lq2 (wbX5_clear_2 x1 Q) n (0 : Int32) σ
set_option maxRecDepth 100000 in
set_option maxHeartbeats 4000000 in
theorem wX5_clear_0 {p : Program} {l : Launch} {e : Env} {s : State} {m : MethodId} {args : Array Value} {below : List Frame} {meth : Method} {c : Code} {D : va_G} {A : Nat → Prop} {g : mG} (hg : inj g) {x1 : Int32} (X : cx p m meth c s args cX5_clear 3 RX5 D (tyG g)) (hr : meth.sig.returnType = none) {Q : RS → Prop} : ∀ (σ : RS), wpX5_clear_0 x1 Q σ → cW p l e rmX5_clear s m args below meth c (MQ below (va_Qv Q (fun u t => wd D A (rT g u) t.heap) A) args s 0 0 A) D A (rT g σ) 0 3 [(0, .ref (g.1 5000)), (1, .int x1)] := by
  obtain ⟨hx, hb, hml, hown, hts, hK, hlk⟩ := id X
  intro σ h H locs ls hw hS hl
  unfold wpX5_clear_0 at h
  refine lv_iconst (v := (0 : Int32)) hx hb dX5_clear_0 (by decide) ?_
  refine lv_istore_n (lv' := [(2, .int (0 : Int32)), (0, .ref (g.1 5000)), (1, .int x1)]) hx hb dX5_clear_1 rfl hl (by decide) rfl (fun ls hl => ?_)
  obtain ⟨n9, h⟩ := h
  exact wX5_clear_2 hg X hr n9 (0 : Int32) _ h H locs ls hw hS (lv_sub hl [1, 2, 0] rfl)
def wpX5_clear (x1 : Int32) (σ : RS) (Q : RS → Prop) : Prop := wpX5_clear_0 x1 Q σ
theorem kX5_clear {l : Launch} {D : va_G} {A : Nat → Prop} {g : mG} (hg : inj g) {x1 : Int32} {σ : RS} {Q : RS → Prop} (h : wpX5_clear x1 σ Q) : Met l yX5_clear (Cond.code yX5_clear cX5_clear 3 none :: wsA) rmX5_clear (mPc D (tyG g) A (rT g σ) [.ref (g.1 5000), .int x1]) (va_Qv Q (fun u t => wd D A (rT g u) t.heap) A) 0 0 A :=
  m_met (by decide +kernel) (Nat.le_of_ble_eq_true rfl) (fun p e s m below meth c X hr H locs ls hw hS hl => wX5_clear_0 hg X hr σ h H locs ls hw hS (lv_sub hl [0, 1] rfl))
theorem fX5_clear : vfit yX5_clear cX5_clear 3 none 1 := ⟨mw_272, mw_273, mw_5, mw_274, by decide +kernel, by decide +kernel, by decide +kernel⟩
/-! BigPolysModel.copyAll(II)V -/
def rmX5_copyAll : Room := { frames := 1, cells := 0, slots := 0, locals := 23 }
def wbX5_copyAll_2 (x1 : Int32) (x2 : Int32) (Q : RS → Prop) (N2 : Int32 → RS → Prop) (i3 : Int32) (σ : RS) : Prop :=
  ((9 : Int32) ≤ i3 →
    vp_in x1 24 ∧ (
    vp_in x2 24 ∧ (
    Q (wD σ x2 (rD σ x1.toNatClampNeg))))) ∧
  (¬ (9 : Int32) ≤ i3 →
    wpX5_at x1 i3 σ (fun (r1 : Int32) (σ2 : RS) =>
      wpX5_at x2 i3 σ2 (fun (r3 : Int32) (σ4 : RS) =>
        wpX5_copy r1 r3 σ4 (fun (σ6 : RS) =>
          ∀ a7 : Int32, a7 = i3 + (1 : Int32) →
          N2 a7 σ6))))
set_option maxRecDepth 100000 in
set_option maxHeartbeats 4000000 in
theorem wX5_copyAll_2 {p : Program} {l : Launch} {e : Env} {s : State} {m : MethodId} {args : Array Value} {below : List Frame} {meth : Method} {c : Code} {D : va_G} {A : Nat → Prop} {g : mG} (hg : inj g) {x1 : Int32} {x2 : Int32} (X : cx p m meth c s args cX5_copyAll 4 RX5 D (tyG g)) (hr : meth.sig.returnType = none) {Q : RS → Prop} : ∀ (n : Nat) (i3 : Int32) (σ : RS), lq2 (wbX5_copyAll_2 x1 x2 Q) n i3 σ → cW p l e rmX5_copyAll s m args below meth c (MQ below (va_Qv Q (fun u t => wd D A (rT g u) t.heap) A) args s 0 0 A) D A (rT g σ) 2 4 [(0, .ref (g.1 5000)), (1, .int x1), (2, .int x2), (3, .int i3)] := by
  obtain ⟨hx, hb, hml, hown, hts, hK, hlk⟩ := id X
  intro n
  induction n with
  | zero =>
    intro i3 σ h
    exact h.elim
  | succ n hN2 =>
    intro i3 σ h H locs ls hw hS hl
    replace h : wbX5_copyAll_2 x1 x2 Q (lq2 (wbX5_copyAll_2 x1 x2 Q) n) i3 σ := h
    unfold wbX5_copyAll_2 at h
    refine lv_iload_n hx hb dX5_copyAll_2 rfl (lv_at hl 3 rfl) ?_
    refine lv_bipush (v := (9 : Int32)) hx hb dX5_copyAll_3 (by decide) ?_
    refine lv_icmp_ge (tgt := 28) hx hb dX5_copyAll_5 (by decide) (fun hc => ?_) (fun hc => ?_)
    · replace h := h.1 hc
      refine lv_aload_n hx hb dX5_copyAll_28 rfl (lv_at hl 0 rfl) ?_
      refine m_get (v := .ref (g.1 5004)) X hw qM rfl inA_X5 3 (by decide) mw_80 rfl dX5_copyAll_29 ?_
      refine lv_iload_n hx hb dX5_copyAll_32 rfl (lv_at hl 2 rfl) ?_
      refine lv_aload_n hx hb dX5_copyAll_33 rfl (lv_at hl 0 rfl) ?_
      refine m_get (v := .ref (g.1 5004)) X hw qM rfl inA_X5 3 (by decide) mw_80 rfl dX5_copyAll_34 ?_
      refine lv_iload_n hx hb dX5_copyAll_37 rfl (lv_at hl 1 rfl) ?_
      obtain ⟨hi, h⟩ := h
      refine m_iald X hw qD 0 rfl hi dX5_copyAll_38 ?_
      obtain ⟨hi, h⟩ := h
      refine m_iast (T' := rT g (wD σ x2 (rD σ x1.toNatClampNeg))) X hw hS qD 0 rfl hi (vD hg) dX5_copyAll_39 (fun H locs hw hS => ?_)
      exact m_vret X hr hw hS h dX5_copyAll_40
    · replace h := h.2 hc
      refine lv_aload_n hx hb dX5_copyAll_8 rfl (lv_at hl 0 rfl) ?_
      refine lv_iload_n hx hb dX5_copyAll_9 rfl (lv_at hl 1 rfl) ?_
      refine lv_iload_n hx hb dX5_copyAll_10 rfl (lv_at hl 3 rfl) ?_
      refine m_cSi (TT := rT g) (As := [.int x1, .int i3]) (rest := [.ref (g.1 5000)]) X hl.1 hw hS (kX5_at hg h) mw_119 fX5_at ⟨rfl, rfl, Nat.le_of_ble_eq_true rfl, Nat.le_of_ble_eq_true rfl⟩ rfl rfl (Nat.le_of_ble_eq_true rfl) dX5_copyAll_11 (fun r1 σ2 H locs h hw hS => ?_)
      refine lv_iload_n hx hb dX5_copyAll_14 rfl (lv_at hl 2 rfl) ?_
      refine lv_iload_n hx hb dX5_copyAll_15 rfl (lv_at hl 3 rfl) ?_
      refine m_cSi (TT := rT g) (As := [.int x2, .int i3]) (rest := [.int r1, .ref (g.1 5000)]) X hl.1 hw hS (kX5_at hg h) mw_119 fX5_at ⟨rfl, rfl, Nat.le_of_ble_eq_true rfl, Nat.le_of_ble_eq_true rfl⟩ rfl rfl (Nat.le_of_ble_eq_true rfl) dX5_copyAll_16 (fun r3 σ4 H locs h hw hS => ?_)
      refine m_cVv (TT := rT g) (As := [.int r1, .int r3]) (rest := []) X hl.1 hw hS (kX5_copy hg h) mw_159 fX5_copy qM rfl rfl ⟨rfl, rfl, Nat.le_of_ble_eq_true rfl, Nat.le_of_ble_eq_true rfl⟩ rfl rfl (Nat.le_of_ble_eq_true rfl) dX5_copyAll_19 (fun σ6 H locs h hw hS => ?_)
      obtain ⟨a7, ea7⟩ : ∃ z : Int32, z = i3 + (1 : Int32) := ⟨_, rfl⟩
      replace h := h a7 ea7
      refine lv_iinc (v := a7) (lv' := [(3, .int a7), (0, .ref (g.1 5000)), (1, .int x1), (2, .int x2)]) hx hb dX5_copyAll_22 hl (k := 3) rfl (by rw [ea7]; rfl) (by decide) rfl (fun ls hl => ?_)
      refine lv_goto (tgt := 2) hx hb dX5_copyAll_25 (by decide) ?_
      exact hN2 a7 _ h H locs ls hw hS (lv_sub hl [1, 2, 3, 0] rfl)
def wpX5_copyAll_0 (x1 : Int32) (x2 : Int32) (Q : RS → Prop) (σ : RS) : Prop :=
  ∃ n, lq2 (wbX5_copyAll_2 x1 x2 Q) n (0 : Int32) σ
set_option maxRecDepth 100000 in
set_option maxHeartbeats 4000000 in
theorem wX5_copyAll_0 {p : Program} {l : Launch} {e : Env} {s : State} {m : MethodId} {args : Array Value} {below : List Frame} {meth : Method} {c : Code} {D : va_G} {A : Nat → Prop} {g : mG} (hg : inj g) {x1 : Int32} {x2 : Int32} (X : cx p m meth c s args cX5_copyAll 4 RX5 D (tyG g)) (hr : meth.sig.returnType = none) {Q : RS → Prop} : ∀ (σ : RS), wpX5_copyAll_0 x1 x2 Q σ → cW p l e rmX5_copyAll s m args below meth c (MQ below (va_Qv Q (fun u t => wd D A (rT g u) t.heap) A) args s 0 0 A) D A (rT g σ) 0 4 [(0, .ref (g.1 5000)), (1, .int x1), (2, .int x2)] := by
  obtain ⟨hx, hb, hml, hown, hts, hK, hlk⟩ := id X
  intro σ h H locs ls hw hS hl
  unfold wpX5_copyAll_0 at h
  refine lv_iconst (v := (0 : Int32)) hx hb dX5_copyAll_0 (by decide) ?_
  refine lv_istore_n (lv' := [(3, .int (0 : Int32)), (0, .ref (g.1 5000)), (1, .int x1), (2, .int x2)]) hx hb dX5_copyAll_1 rfl hl (by decide) rfl (fun ls hl => ?_)
  obtain ⟨n9, h⟩ := h
  exact wX5_copyAll_2 hg X hr n9 (0 : Int32) _ h H locs ls hw hS (lv_sub hl [1, 2, 3, 0] rfl)
def wpX5_copyAll (x1 : Int32) (x2 : Int32) (σ : RS) (Q : RS → Prop) : Prop := wpX5_copyAll_0 x1 x2 Q σ
theorem kX5_copyAll {l : Launch} {D : va_G} {A : Nat → Prop} {g : mG} (hg : inj g) {x1 : Int32} {x2 : Int32} {σ : RS} {Q : RS → Prop} (h : wpX5_copyAll x1 x2 σ Q) : Met l yX5_copyAll (Cond.code yX5_copyAll cX5_copyAll 4 none :: wsA) rmX5_copyAll (mPc D (tyG g) A (rT g σ) [.ref (g.1 5000), .int x1, .int x2]) (va_Qv Q (fun u t => wd D A (rT g u) t.heap) A) 0 0 A :=
  m_met (by decide +kernel) (Nat.le_of_ble_eq_true rfl) (fun p e s m below meth c X hr H locs ls hw hS hl => wX5_copyAll_0 hg X hr σ h H locs ls hw hS (lv_sub hl [0, 1, 2] rfl))
theorem fX5_copyAll : vfit yX5_copyAll cX5_copyAll 4 none 2 := ⟨mw_240, mw_241, mw_5, mw_242, by decide +kernel, by decide +kernel, by decide +kernel⟩
/-! BigPolysModel.makePrimitive(IZ)V -/
def rmX5_makePrimitive : Room := { frames := 4, cells := 0, slots := 0, locals := 110 }
def wpX5_makePrimitive_163 (x1 : Int32) (x2 : Int32) (Q : RS → Prop) (N85 : Int32 → Int32 → Int32 → RS → Prop) (i3 : Int32) (i4 : Int32) (i5 : Int32) (σ : RS) : Prop :=
  ∀ a1 : Int32, a1 = i5 + (1 : Int32) →
  N85 i3 i4 a1 σ
set_option maxRecDepth 100000 in
set_option maxHeartbeats 4000000 in
theorem wX5_makePrimitive_163 {p : Program} {l : Launch} {e : Env} {s : State} {m : MethodId} {args : Array Value} {below : List Frame} {meth : Method} {c : Code} {D : va_G} {A : Nat → Prop} {g : mG} (hg : inj g) {x1 : Int32} {x2 : Int32} (X : cx p m meth c s args cX5_makePrimitive 8 RX5 D (tyG g)) (hr : meth.sig.returnType = none) {Q : RS → Prop} {N85 : Int32 → Int32 → Int32 → RS → Prop} (hN85 : ∀ (i3 : Int32) (i4 : Int32) (i5 : Int32) (σ : RS), N85 i3 i4 i5 σ → cW p l e rmX5_makePrimitive s m args below meth c (MQ below (va_Qv Q (fun u t => wd D A (rT g u) t.heap) A) args s 0 0 A) D A (rT g σ) 85 8 [(0, .ref (g.1 5000)), (1, .int x1), (2, .int x2), (3, .int i3), (4, .int i4), (5, .int i5)]) : ∀ (i3 : Int32) (i4 : Int32) (i5 : Int32) (σ : RS), wpX5_makePrimitive_163 x1 x2 Q N85 i3 i4 i5 σ → cW p l e rmX5_makePrimitive s m args below meth c (MQ below (va_Qv Q (fun u t => wd D A (rT g u) t.heap) A) args s 0 0 A) D A (rT g σ) 163 8 [(0, .ref (g.1 5000)), (1, .int x1), (2, .int x2), (3, .int i3), (4, .int i4), (5, .int i5)] := by
  obtain ⟨hx, hb, hml, hown, hts, hK, hlk⟩ := id X
  intro i3 i4 i5 σ h H locs ls hw hS hl
  unfold wpX5_makePrimitive_163 at h
  obtain ⟨a1, ea1⟩ : ∃ z : Int32, z = i5 + (1 : Int32) := ⟨_, rfl⟩
  replace h := h a1 ea1
  refine lv_iinc (v := a1) (lv' := [(5, .int a1), (0, .ref (g.1 5000)), (1, .int x1), (2, .int x2), (3, .int i3), (4, .int i4)]) hx hb dX5_makePrimitive_163 hl (k := 5) rfl (by rw [ea1]; rfl) (by decide) rfl (fun ls hl => ?_)
  refine lv_goto (tgt := 85) hx hb dX5_makePrimitive_166 (by decide) ?_
  exact hN85 i3 i4 a1 _ h H locs ls hw hS (lv_sub hl [1, 2, 3, 4, 5, 0] rfl)
def wbX5_makePrimitive_85 (x1 : Int32) (x2 : Int32) (Q : RS → Prop) (N85 : Int32 → Int32 → Int32 → RS → Prop) (i3 : Int32) (i4 : Int32) (i5 : Int32) (σ : RS) : Prop :=
  vp_in x1 24 ∧ (
  ((rD σ x1.toNatClampNeg) < i5 →
    Q σ) ∧
  (¬ (rD σ x1.toNatClampNeg) < i5 →
    wpX5_at x1 i5 σ (fun (r2 : Int32) (σ3 : RS) =>
      vp_in r2 227 ∧ (
      ((rG σ3 r2.toNatClampNeg) = 0 →
        wpX5_makePrimitive_163 x1 x2 Q N85 i3 i4 i5 σ3) ∧
      (¬ (rG σ3 r2.toNatClampNeg) = 0 →
        vp_in r2 227 ∧ (
        ∀ a4 : Int32, a4 = rG σ3 r2.toNatClampNeg →
        wpX5_copy r2 (217 : Int32) σ3 (fun (σ6 : RS) =>
          vp_in (217 : Int32) 227 ∧ (
          wpX5_divide (217 : Int32) i3 r2 (wG σ6 (217 : Int32) (1 : Int32)) (fun (σ8 : RS) =>
            vp_in r2 227 ∧ (
            wpX5_makePrimitive_163 x1 x2 Q N85 i3 i4 i5 (wG σ8 r2 (a4 * i4))))))))))))
set_option maxRecDepth 100000 in
set_option maxHeartbeats 4000000 in
theorem wX5_makePrimitive_85 {p : Program} {l : Launch} {e : Env} {s : State} {m : MethodId} {args : Array Value} {below : List Frame} {meth : Method} {c : Code} {D : va_G} {A : Nat → Prop} {g : mG} (hg : inj g) {x1 : Int32} {x2 : Int32} (X : cx p m meth c s args cX5_makePrimitive 8 RX5 D (tyG g)) (hr : meth.sig.returnType = none) {Q : RS → Prop} : ∀ (n : Nat) (i3 : Int32) (i4 : Int32) (i5 : Int32) (σ : RS), lq4 (wbX5_makePrimitive_85 x1 x2 Q) n i3 i4 i5 σ → cW p l e rmX5_makePrimitive s m args below meth c (MQ below (va_Qv Q (fun u t => wd D A (rT g u) t.heap) A) args s 0 0 A) D A (rT g σ) 85 8 [(0, .ref (g.1 5000)), (1, .int x1), (2, .int x2), (3, .int i3), (4, .int i4), (5, .int i5)] := by
  obtain ⟨hx, hb, hml, hown, hts, hK, hlk⟩ := id X
  intro n
  induction n with
  | zero =>
    intro i3 i4 i5 σ h
    exact h.elim
  | succ n hN85 =>
    intro i3 i4 i5 σ h H locs ls hw hS hl
    replace h : wbX5_makePrimitive_85 x1 x2 Q (lq4 (wbX5_makePrimitive_85 x1 x2 Q) n) i3 i4 i5 σ := h
    unfold wbX5_makePrimitive_85 at h
    refine lv_iload hx hb dX5_makePrimitive_85 (lv_at hl 5 rfl) ?_
    refine lv_aload_n hx hb dX5_makePrimitive_87 rfl (lv_at hl 0 rfl) ?_
    refine m_get (v := .ref (g.1 5004)) X hw qM rfl inA_X5 3 (by decide) mw_80 rfl dX5_makePrimitive_88 ?_
    refine lv_iload_n hx hb dX5_makePrimitive_91 rfl (lv_at hl 1 rfl) ?_
    obtain ⟨hi, h⟩ := h
    refine m_iald X hw qD 0 rfl hi dX5_makePrimitive_92 ?_
    refine lv_icmp_gt (tgt := 169) hx hb dX5_makePrimitive_93 (by decide) (fun hc => ?_) (fun hc => ?_)
    · replace h := h.1 hc
      exact m_vret X hr hw hS h dX5_makePrimitive_169
    · replace h := h.2 hc
      refine lv_iload_n hx hb dX5_makePrimitive_96 rfl (lv_at hl 1 rfl) ?_
      refine lv_iload hx hb dX5_makePrimitive_97 (lv_at hl 5 rfl) ?_
      refine m_cSi (TT := rT g) (As := [.int x1, .int i5]) (rest := []) X hl.1 hw hS (kX5_at hg h) mw_119 fX5_at ⟨rfl, rfl, Nat.le_of_ble_eq_true rfl, Nat.le_of_ble_eq_true rfl⟩ rfl rfl (Nat.le_of_ble_eq_true rfl) dX5_makePrimitive_99 (fun r2 σ3 H locs h hw hS => ?_)
      refine lv_istore (lv' := [(6, .int r2), (0, .ref (g.1 5000)), (1, .int x1), (2, .int x2), (3, .int i3), (4, .int i4), (5, .int i5)]) hx hb dX5_makePrimitive_102 hl (by decide) rfl (fun ls hl => ?_)
      refine lv_aload_n hx hb dX5_makePrimitive_104 rfl (lv_at hl 1 rfl) ?_
      refine m_get (v := .ref (g.1 5003)) X hw qM rfl inA_X5 2 (by decide) mw_79 rfl dX5_makePrimitive_105 ?_
      refine lv_iload hx hb dX5_makePrimitive_108 (lv_at hl 0 rfl) ?_
      obtain ⟨hi, h⟩ := h
      refine m_iald X hw qG 0 rfl hi dX5_makePrimitive_110 ?_
      refine lv_if_eq (tgt := 163) hx hb dX5_makePrimitive_111 (by decide) (fun hc => ?_) (fun hc => ?_)
      · replace h := h.1 hc
        exact wX5_makePrimitive_163 hg X hr hN85 i3 i4 i5 _ h H locs ls hw hS (lv_sub hl [1, 2, 3, 4, 5, 6] rfl)
      · replace h := h.2 hc
        refine lv_aload_n hx hb dX5_makePrimitive_114 rfl (lv_at hl 1 rfl) ?_
        refine m_get (v := .ref (g.1 5003)) X hw qM rfl inA_X5 2 (by decide) mw_79 rfl dX5_makePrimitive_115 ?_
        refine lv_iload hx hb dX5_makePrimitive_118 (lv_at hl 0 rfl) ?_
        obtain ⟨hi, h⟩ := h
        refine m_iald X hw qG 0 rfl hi dX5_makePrimitive_120 ?_
        refine lv_topi (fun a4 ea4 => ?_)
        replace h := h a4 ea4
        refine lv_istore (lv' := [(7, .int a4), (6, .int r2), (0, .ref (g.1 5000)), (1, .int x1), (2, .int x2), (3, .int i3), (4, .int i4), (5, .int i5)]) hx hb dX5_makePrimitive_121 hl (by decide) rfl (fun ls hl => ?_)
        refine lv_aload_n hx hb dX5_makePrimitive_123 rfl (lv_at hl 2 rfl) ?_
        refine lv_iload hx hb dX5_makePrimitive_124 (lv_at hl 1 rfl) ?_
        refine lv_sipush (v := (217 : Int32)) hx hb dX5_makePrimitive_126 (by decide) ?_
        refine m_cVv (TT := rT g) (As := [.int r2, .int (217 : Int32)]) (rest := []) X hl.1 hw hS (kX5_copy hg h) mw_159 fX5_copy qM rfl rfl ⟨rfl, rfl, Nat.le_of_ble_eq_true rfl, Nat.le_of_ble_eq_true rfl⟩ rfl rfl (Nat.le_of_ble_eq_true rfl) dX5_makePrimitive_129 (fun σ6 H locs h hw hS => ?_)
        refine lv_aload_n hx hb dX5_makePrimitive_132 rfl (lv_at hl 2 rfl) ?_
        refine m_get (v := .ref (g.1 5003)) X hw qM rfl inA_X5 2 (by decide) mw_79 rfl dX5_makePrimitive_133 ?_
        refine lv_sipush (v := (217 : Int32)) hx hb dX5_makePrimitive_136 (by decide) ?_
        refine lv_iconst (v := (1 : Int32)) hx hb dX5_makePrimitive_139 (by decide) ?_
        obtain ⟨hi, h⟩ := h
        refine m_iast (T' := rT g (wG σ6 (217 : Int32) (1 : Int32))) X hw hS qG 0 rfl hi (vG hg) dX5_makePrimitive_140 (fun H locs hw hS => ?_)
        refine lv_aload_n hx hb dX5_makePrimitive_141 rfl (lv_at hl 2 rfl) ?_
        refine lv_sipush (v := (217 : Int32)) hx hb dX5_makePrimitive_142 (by decide) ?_
        refine lv_iload_n hx hb dX5_makePrimitive_145 rfl (lv_at hl 5 rfl) ?_
        refine lv_iload hx hb dX5_makePrimitive_146 (lv_at hl 1 rfl) ?_
        refine m_cVv (TT := rT g) (As := [.int (217 : Int32), .int i3, .int r2]) (rest := []) X hl.1 hw hS (kX5_divide hg h) mw_391 fX5_divide qM rfl rfl ⟨rfl, rfl, Nat.le_of_ble_eq_true rfl, Nat.le_of_ble_eq_true rfl⟩ rfl rfl (Nat.le_of_ble_eq_true rfl) dX5_makePrimitive_148 (fun σ8 H locs h hw hS => ?_)
        refine lv_aload_n hx hb dX5_makePrimitive_151 rfl (lv_at hl 2 rfl) ?_
        refine m_get (v := .ref (g.1 5003)) X hw qM rfl inA_X5 2 (by decide) mw_79 rfl dX5_makePrimitive_152 ?_
        refine lv_iload hx hb dX5_makePrimitive_155 (lv_at hl 1 rfl) ?_
        refine lv_iload hx hb dX5_makePrimitive_157 (lv_at hl 0 rfl) ?_
        refine lv_iload hx hb dX5_makePrimitive_159 (lv_at hl 6 rfl) ?_
        refine lv_imul hx hb dX5_makePrimitive_161 ?_
        obtain ⟨hi, h⟩ := h
        refine m_iast (T' := rT g (wG σ8 r2 (a4 * i4))) X hw hS qG 0 rfl hi (vG hg) dX5_makePrimitive_162 (fun H locs hw hS => ?_)
        exact wX5_makePrimitive_163 hg X hr hN85 i3 i4 i5 _ h H locs ls hw hS (lv_sub hl [2, 3, 4, 5, 6, 7] rfl)
def wpX5_makePrimitive_82 (x1 : Int32) (x2 : Int32) (Q : RS → Prop) (i3 : Int32) (i4 : Int32) (σ : RS) : Prop :=
  ∃ n, lq4 (wbX5_makePrimitive_85 x1 x2 Q) n i3 i4 (0 : Int32) σ
set_option maxRecDepth 100000 in
set_option maxHeartbeats 4000000 in
theorem wX5_makePrimitive_82 {p : Program} {l : Launch} {e : Env} {s : State} {m : MethodId} {args : Array Value} {below : List Frame} {meth : Method} {c : Code} {D : va_G} {A : Nat → Prop} {g : mG} (hg : inj g) {x1 : Int32} {x2 : Int32} (X : cx p m meth c s args cX5_makePrimitive 8 RX5 D (tyG g)) (hr : meth.sig.returnType = none) {Q : RS → Prop} : ∀ (i3 : Int32) (i4 : Int32) (σ : RS), wpX5_makePrimitive_82 x1 x2 Q i3 i4 σ → cW p l e rmX5_makePrimitive s m args below meth c (MQ below (va_Qv Q (fun u t => wd D A (rT g u) t.heap) A) args s 0 0 A) D A (rT g σ) 82 8 [(0, .ref (g.1 5000)), (1, .int x1), (2, .int x2), (3, .int i3), (4, .int i4)] := by
  obtain ⟨hx, hb, hml, hown, hts, hK, hlk⟩ := id X
  intro i3 i4 σ h H locs ls hw hS hl
  unfold wpX5_makePrimitive_82 at h
  refine lv_iconst (v := (0 : Int32)) hx hb dX5_makePrimitive_82 (by decide) ?_
  refine lv_istore (lv' := [(5, .int (0 : Int32)), (0, .ref (g.1 5000)), (1, .int x1), (2, .int x2), (3, .int i3), (4, .int i4)]) hx hb dX5_makePrimitive_83 hl (by decide) rfl (fun ls hl => ?_)
  obtain ⟨n9, h⟩ := h
  exact wX5_makePrimitive_85 hg X hr n9 i3 i4 (0 : Int32) _ h H locs ls hw hS (lv_sub hl [1, 2, 3, 4, 5, 0] rfl)
def wpX5_makePrimitive_79 (x1 : Int32) (x2 : Int32) (Q : RS → Prop) (i3 : Int32) (σ : RS) : Prop :=
  wpX5_makePrimitive_82 x1 x2 Q i3 (1 : Int32) σ
set_option maxRecDepth 100000 in
set_option maxHeartbeats 4000000 in
theorem wX5_makePrimitive_79 {p : Program} {l : Launch} {e : Env} {s : State} {m : MethodId} {args : Array Value} {below : List Frame} {meth : Method} {c : Code} {D : va_G} {A : Nat → Prop} {g : mG} (hg : inj g) {x1 : Int32} {x2 : Int32} (X : cx p m meth c s args cX5_makePrimitive 8 RX5 D (tyG g)) (hr : meth.sig.returnType = none) {Q : RS → Prop} : ∀ (i3 : Int32) (σ : RS), wpX5_makePrimitive_79 x1 x2 Q i3 σ → cW p l e rmX5_makePrimitive s m args below meth c (MQ below (va_Qv Q (fun u t => wd D A (rT g u) t.heap) A) args s 0 0 A) D A (rT g σ) 79 8 [(0, .ref (g.1 5000)), (1, .int x1), (2, .int x2), (3, .int i3)] := by
  obtain ⟨hx, hb, hml, hown, hts, hK, hlk⟩ := id X
  intro i3 σ h H locs ls hw hS hl
  unfold wpX5_makePrimitive_79 at h
  refine lv_iconst (v := (1 : Int32)) hx hb dX5_makePrimitive_79 (by decide) ?_
  refine lv_istore (lv' := [(4, .int (1 : Int32)), (0, .ref (g.1 5000)), (1, .int x1), (2, .int x2), (3, .int i3)]) hx hb dX5_makePrimitive_80 hl (by decide) rfl (fun ls hl => ?_)
  exact wX5_makePrimitive_82 hg X hr i3 (1 : Int32) _ h H locs ls hw hS (lv_sub hl [1, 2, 3, 4, 0] rfl)
def wpX5_makePrimitive_47 (x1 : Int32) (x2 : Int32) (Q : RS → Prop) (N17 : Int32 → Int32 → RS → Prop) (i3 : Int32) (i4 : Int32) (σ : RS) : Prop :=
  ∀ a9 : Int32, a9 = i4 + (-1 : Int32) →
  N17 i3 a9 σ
set_option maxRecDepth 100000 in
set_option maxHeartbeats 4000000 in
theorem wX5_makePrimitive_47 {p : Program} {l : Launch} {e : Env} {s : State} {m : MethodId} {args : Array Value} {below : List Frame} {meth : Method} {c : Code} {D : va_G} {A : Nat → Prop} {g : mG} (hg : inj g) {x1 : Int32} {x2 : Int32} (X : cx p m meth c s args cX5_makePrimitive 8 RX5 D (tyG g)) (hr : meth.sig.returnType = none) {Q : RS → Prop} {N17 : Int32 → Int32 → RS → Prop} (hN17 : ∀ (i3 : Int32) (i4 : Int32) (σ : RS), N17 i3 i4 σ → cW p l e rmX5_makePrimitive s m args below meth c (MQ below (va_Qv Q (fun u t => wd D A (rT g u) t.heap) A) args s 0 0 A) D A (rT g σ) 17 8 [(0, .ref (g.1 5000)), (1, .int x1), (2, .int x2), (3, .int i3), (4, .int i4)]) : ∀ (i3 : Int32) (i4 : Int32) (σ : RS), wpX5_makePrimitive_47 x1 x2 Q N17 i3 i4 σ → cW p l e rmX5_makePrimitive s m args below meth c (MQ below (va_Qv Q (fun u t => wd D A (rT g u) t.heap) A) args s 0 0 A) D A (rT g σ) 47 8 [(0, .ref (g.1 5000)), (1, .int x1), (2, .int x2), (3, .int i3), (4, .int i4)] := by
  obtain ⟨hx, hb, hml, hown, hts, hK, hlk⟩ := id X
  intro i3 i4 σ h H locs ls hw hS hl
  unfold wpX5_makePrimitive_47 at h
  obtain ⟨a9, ea9⟩ : ∃ z : Int32, z = i4 + (-1 : Int32) := ⟨_, rfl⟩
  replace h := h a9 ea9
  refine lv_iinc (v := a9) (lv' := [(4, .int a9), (0, .ref (g.1 5000)), (1, .int x1), (2, .int x2), (3, .int i3)]) hx hb dX5_makePrimitive_47 hl (k := 4) rfl (by rw [ea9]; rfl) (by decide) rfl (fun ls hl => ?_)
  refine lv_goto (tgt := 17) hx hb dX5_makePrimitive_50 (by decide) ?_
  exact hN17 i3 a9 _ h H locs ls hw hS (lv_sub hl [1, 2, 3, 4, 0] rfl)
def wbX5_makePrimitive_17 (x1 : Int32) (x2 : Int32) (Q : RS → Prop) (N17 : Int32 → Int32 → RS → Prop) (i3 : Int32) (i4 : Int32) (σ : RS) : Prop :=
  (i4 < 0 →
    (¬ x2 = 0 →
      wpX5_makePrimitive_79 x1 x2 Q i3 σ) ∧
    (x2 = 0 →
      vp_in x1 24 ∧ (
      wpX5_at x1 (rD σ x1.toNatClampNeg) σ (fun (r10 : Int32) (σ11 : RS) =>
        vp_in r10 227 ∧ (
        (0 ≤ (rG σ11 r10.toNatClampNeg) →
          wpX5_makePrimitive_79 x1 x2 Q i3 σ11) ∧
        (¬ 0 ≤ (rG σ11 r10.toNatClampNeg) →
          wpX5_makePrimitive_82 x1 x2 Q i3 (-1 : Int32) σ11)))))) ∧
  (¬ i4 < 0 →
    wpX5_at x1 i4 σ (fun (r12 : Int32) (σ13 : RS) =>
      vp_in r12 227 ∧ (
      ((rG σ13 r12.toNatClampNeg) = 0 →
        wpX5_makePrimitive_47 x1 x2 Q N17 i3 i4 σ13) ∧
      (¬ (rG σ13 r12.toNatClampNeg) = 0 →
        wpX5_at x1 i4 σ13 (fun (r14 : Int32) (σ15 : RS) =>
          wpX5_common i3 r14 σ15 (fun (σ17 : RS) =>
            wpX5_makePrimitive_47 x1 x2 Q N17 i3 i4 σ17))))))
set_option maxRecDepth 100000 in
set_option maxHeartbeats 4000000 in
theorem wX5_makePrimitive_17 {p : Program} {l : Launch} {e : Env} {s : State} {m : MethodId} {args : Array Value} {below : List Frame} {meth : Method} {c : Code} {D : va_G} {A : Nat → Prop} {g : mG} (hg : inj g) {x1 : Int32} {x2 : Int32} (X : cx p m meth c s args cX5_makePrimitive 8 RX5 D (tyG g)) (hr : meth.sig.returnType = none) {Q : RS → Prop} : ∀ (n : Nat) (i3 : Int32) (i4 : Int32) (σ : RS), lq3 (wbX5_makePrimitive_17 x1 x2 Q) n i3 i4 σ → cW p l e rmX5_makePrimitive s m args below meth c (MQ below (va_Qv Q (fun u t => wd D A (rT g u) t.heap) A) args s 0 0 A) D A (rT g σ) 17 8 [(0, .ref (g.1 5000)), (1, .int x1), (2, .int x2), (3, .int i3), (4, .int i4)] := by
  obtain ⟨hx, hb, hml, hown, hts, hK, hlk⟩ := id X
  intro n
  induction n with
  | zero =>
    intro i3 i4 σ h
    exact h.elim
  | succ n hN17 =>
    intro i3 i4 σ h H locs ls hw hS hl
    replace h : wbX5_makePrimitive_17 x1 x2 Q (lq3 (wbX5_makePrimitive_17 x1 x2 Q) n) i3 i4 σ := h
    unfold wbX5_makePrimitive_17 at h
    refine lv_iload hx hb dX5_makePrimitive_17 (lv_at hl 4 rfl) ?_
    refine lv_if_lt (tgt := 53) hx hb dX5_makePrimitive_19 (by decide) (fun hc => ?_) (fun hc => ?_)
    · replace h := h.1 hc
      refine lv_iload_n hx hb dX5_makePrimitive_53 rfl (lv_at hl 2 rfl) ?_
      refine lv_if_ne (tgt := 79) hx hb dX5_makePrimitive_54 (by decide) (fun hc => ?_) (fun hc => ?_)
      · replace h := h.1 hc
        exact wX5_makePrimitive_79 hg X hr i3 _ h H locs ls hw hS (lv_sub hl [0, 1, 2, 3] rfl)
      · replace h := h.2 hc
        refine lv_aload_n hx hb dX5_makePrimitive_57 rfl (lv_at hl 0 rfl) ?_
        refine m_get (v := .ref (g.1 5003)) X hw qM rfl inA_X5 2 (by decide) mw_79 rfl dX5_makePrimitive_58 ?_
        refine lv_iload_n hx hb dX5_makePrimitive_61 rfl (lv_at hl 1 rfl) ?_
        refine lv_aload_n hx hb dX5_makePrimitive_62 rfl (lv_at hl 0 rfl) ?_
        refine m_get (v := .ref (g.1 5004)) X hw qM rfl inA_X5 3 (by decide) mw_80 rfl dX5_makePrimitive_63 ?_
        refine lv_iload_n hx hb dX5_makePrimitive_66 rfl (lv_at hl 1 rfl) ?_
        obtain ⟨hi, h⟩ := h
        refine m_iald X hw qD 0 rfl hi dX5_makePrimitive_67 ?_
        refine m_cSi (TT := rT g) (As := [.int x1, .int (rD σ x1.toNatClampNeg)]) (rest := [.ref (g.1 5003)]) X hl.1 hw hS (kX5_at hg h) mw_119 fX5_at ⟨rfl, rfl, Nat.le_of_ble_eq_true rfl, Nat.le_of_ble_eq_true rfl⟩ rfl rfl (Nat.le_of_ble_eq_true rfl) dX5_makePrimitive_68 (fun r10 σ11 H locs h hw hS => ?_)
        obtain ⟨hi, h⟩ := h
        refine m_iald X hw qG 0 rfl hi dX5_makePrimitive_71 ?_
        refine lv_if_ge (tgt := 79) hx hb dX5_makePrimitive_72 (by decide) (fun hc => ?_) (fun hc => ?_)
        · replace h := h.1 hc
          exact wX5_makePrimitive_79 hg X hr i3 _ h H locs ls hw hS (lv_sub hl [0, 1, 2, 3] rfl)
        · replace h := h.2 hc
          refine lv_iconst (v := (-1 : Int32)) hx hb dX5_makePrimitive_75 (by decide) ?_
          refine lv_goto (tgt := 80) hx hb dX5_makePrimitive_76 (by decide) ?_
          refine lv_istore (lv' := [(4, .int (-1 : Int32)), (0, .ref (g.1 5000)), (1, .int x1), (2, .int x2), (3, .int i3)]) hx hb dX5_makePrimitive_80 hl (by decide) rfl (fun ls hl => ?_)
          exact wX5_makePrimitive_82 hg X hr i3 (-1 : Int32) _ h H locs ls hw hS (lv_sub hl [1, 2, 3, 4, 0] rfl)
    · replace h := h.2 hc
      refine lv_aload_n hx hb dX5_makePrimitive_22 rfl (lv_at hl 0 rfl) ?_
      refine m_get (v := .ref (g.1 5003)) X hw qM rfl inA_X5 2 (by decide) mw_79 rfl dX5_makePrimitive_23 ?_
      refine lv_iload_n hx hb dX5_makePrimitive_26 rfl (lv_at hl 1 rfl) ?_
      refine lv_iload hx hb dX5_makePrimitive_27 (lv_at hl 4 rfl) ?_
      refine m_cSi (TT := rT g) (As := [.int x1, .int i4]) (rest := [.ref (g.1 5003)]) X hl.1 hw hS (kX5_at hg h) mw_119 fX5_at ⟨rfl, rfl, Nat.le_of_ble_eq_true rfl, Nat.le_of_ble_eq_true rfl⟩ rfl rfl (Nat.le_of_ble_eq_true rfl) dX5_makePrimitive_29 (fun r12 σ13 H locs h hw hS => ?_)
      obtain ⟨hi, h⟩ := h
      refine m_iald X hw qG 0 rfl hi dX5_makePrimitive_32 ?_
      refine lv_if_eq (tgt := 47) hx hb dX5_makePrimitive_33 (by decide) (fun hc => ?_) (fun hc => ?_)
      · replace h := h.1 hc
        exact wX5_makePrimitive_47 hg X hr hN17 i3 i4 _ h H locs ls hw hS (lv_sub hl [0, 1, 2, 3, 4] rfl)
      · replace h := h.2 hc
        refine lv_aload_n hx hb dX5_makePrimitive_36 rfl (lv_at hl 0 rfl) ?_
        refine lv_iload_n hx hb dX5_makePrimitive_37 rfl (lv_at hl 3 rfl) ?_
        refine lv_iload_n hx hb dX5_makePrimitive_38 rfl (lv_at hl 1 rfl) ?_
        refine lv_iload hx hb dX5_makePrimitive_39 (lv_at hl 4 rfl) ?_
        refine m_cSi (TT := rT g) (As := [.int x1, .int i4]) (rest := [.int i3, .ref (g.1 5000)]) X hl.1 hw hS (kX5_at hg h) mw_119 fX5_at ⟨rfl, rfl, Nat.le_of_ble_eq_true rfl, Nat.le_of_ble_eq_true rfl⟩ rfl rfl (Nat.le_of_ble_eq_true rfl) dX5_makePrimitive_41 (fun r14 σ15 H locs h hw hS => ?_)
        refine m_cVv (TT := rT g) (As := [.int i3, .int r14]) (rest := []) X hl.1 hw hS (kX5_common hg h) mw_476 fX5_common qM rfl rfl ⟨rfl, rfl, Nat.le_of_ble_eq_true rfl, Nat.le_of_ble_eq_true rfl⟩ rfl rfl (Nat.le_of_ble_eq_true rfl) dX5_makePrimitive_44 (fun σ17 H locs h hw hS => ?_)
        exact wX5_makePrimitive_47 hg X hr hN17 i3 i4 _ h H locs ls hw hS (lv_sub hl [0, 1, 2, 3, 4] rfl)
def wpX5_makePrimitive_0 (x1 : Int32) (x2 : Int32) (Q : RS → Prop) (σ : RS) : Prop :=
  wpX5_zero (216 : Int32) σ (fun (σ19 : RS) =>
    vp_in x1 24 ∧ (
    ∀ a20 : Int32, a20 = rD σ19 x1.toNatClampNeg →
    ∃ n, lq3 (wbX5_makePrimitive_17 x1 x2 Q) n (216 : Int32) a20 σ19))
set_option maxRecDepth 100000 in
set_option maxHeartbeats 4000000 in
theorem wX5_makePrimitive_0 {p : Program} {l : Launch} {e : Env} {s : State} {m : MethodId} {args : Array Value} {below : List Frame} {meth : Method} {c : Code} {D : va_G} {A : Nat → Prop} {g : mG} (hg : inj g) {x1 : Int32} {x2 : Int32} (X : cx p m meth c s args cX5_makePrimitive 8 RX5 D (tyG g)) (hr : meth.sig.returnType = none) {Q : RS → Prop} : ∀ (σ : RS), wpX5_makePrimitive_0 x1 x2 Q σ → cW p l e rmX5_makePrimitive s m args below meth c (MQ below (va_Qv Q (fun u t => wd D A (rT g u) t.heap) A) args s 0 0 A) D A (rT g σ) 0 8 [(0, .ref (g.1 5000)), (1, .int x1), (2, .int x2)] := by
  obtain ⟨hx, hb, hml, hown, hts, hK, hlk⟩ := id X
  intro σ h H locs ls hw hS hl
  unfold wpX5_makePrimitive_0 at h
  refine lv_sipush (v := (216 : Int32)) hx hb dX5_makePrimitive_0 (by decide) ?_
  refine lv_istore_n (lv' := [(3, .int (216 : Int32)), (0, .ref (g.1 5000)), (1, .int x1), (2, .int x2)]) hx hb dX5_makePrimitive_3 rfl hl (by decide) rfl (fun ls hl => ?_)
  refine lv_aload_n hx hb dX5_makePrimitive_4 rfl (lv_at hl 1 rfl) ?_
  refine lv_iload_n hx hb dX5_makePrimitive_5 rfl (lv_at hl 0 rfl) ?_
  refine m_cVv (TT := rT g) (As := [.int (216 : Int32)]) (rest := []) X hl.1 hw hS (kX5_zero hg h) mw_122 fX5_zero qM rfl rfl ⟨rfl, rfl, Nat.le_of_ble_eq_true rfl, Nat.le_of_ble_eq_true rfl⟩ rfl rfl (Nat.le_of_ble_eq_true rfl) dX5_makePrimitive_6 (fun σ19 H locs h hw hS => ?_)
  refine lv_aload_n hx hb dX5_makePrimitive_9 rfl (lv_at hl 1 rfl) ?_
  refine m_get (v := .ref (g.1 5004)) X hw qM rfl inA_X5 3 (by decide) mw_80 rfl dX5_makePrimitive_10 ?_
  refine lv_iload_n hx hb dX5_makePrimitive_13 rfl (lv_at hl 2 rfl) ?_
  obtain ⟨hi, h⟩ := h
  refine m_iald X hw qD 0 rfl hi dX5_makePrimitive_14 ?_
  refine lv_topi (fun a20 ea20 => ?_)
  replace h := h a20 ea20
  refine lv_istore (lv' := [(4, .int a20), (3, .int (216 : Int32)), (0, .ref (g.1 5000)), (1, .int x1), (2, .int x2)]) hx hb dX5_makePrimitive_15 hl (by decide) rfl (fun ls hl => ?_)
  obtain ⟨n9, h⟩ := h
  exact wX5_makePrimitive_17 hg X hr n9 (216 : Int32) a20 _ h H locs ls hw hS (lv_sub hl [2, 3, 4, 1, 0] rfl)
def wpX5_makePrimitive (x1 : Int32) (x2 : Int32) (σ : RS) (Q : RS → Prop) : Prop := wpX5_makePrimitive_0 x1 x2 Q σ
theorem kX5_makePrimitive {l : Launch} {D : va_G} {A : Nat → Prop} {g : mG} (hg : inj g) {x1 : Int32} {x2 : Int32} {σ : RS} {Q : RS → Prop} (h : wpX5_makePrimitive x1 x2 σ Q) : Met l yX5_makePrimitive (Cond.code yX5_makePrimitive cX5_makePrimitive 8 none :: wsA) rmX5_makePrimitive (mPc D (tyG g) A (rT g σ) [.ref (g.1 5000), .int x1, .int x2]) (va_Qv Q (fun u t => wd D A (rT g u) t.heap) A) 0 0 A :=
  m_met (by decide +kernel) (Nat.le_of_ble_eq_true rfl) (fun p e s m below meth c X hr H locs ls hw hS hl => wX5_makePrimitive_0 hg X hr σ h H locs ls hw hS (lv_sub hl [0, 1, 2] rfl))
theorem fX5_makePrimitive : vfit yX5_makePrimitive cX5_makePrimitive 8 none 2 := ⟨mw_473, mw_474, mw_5, mw_475, by decide +kernel, by decide +kernel, by decide +kernel⟩
/-! BigPolysModel.remain(Z)V -/
def rmX5_remain : Room := { frames := 2, cells := 0, slots := 0, locals := 59 }
def wbX5_remain_216 (x1 : Int32) (Q : RS → Prop) (N216 : Int32 → RS → Prop) (i5 : Int32) (σ : RS) : Prop :=
  ((9 : Int32) ≤ i5 →
    Q σ) ∧
  (¬ (9 : Int32) ≤ i5 →
    wpX5_at (20 : Int32) i5 σ (fun (r1 : Int32) (σ2 : RS) =>
      wpX5_at (20 : Int32) i5 σ2 (fun (r3 : Int32) (σ4 : RS) =>
        vp_in r3 227 ∧ (
        vp_in r1 227 ∧ (
        ∀ a5 : Int32, a5 = i5 + (1 : Int32) →
        N216 a5 (wG σ4 r1 (-(rG σ4 r3.toNatClampNeg))))))))
set_option maxRecDepth 100000 in
set_option maxHeartbeats 4000000 in
theorem wX5_remain_216 {p : Program} {l : Launch} {e : Env} {s : State} {m : MethodId} {args : Array Value} {below : List Frame} {meth : Method} {c : Code} {D : va_G} {A : Nat → Prop} {g : mG} (hg : inj g) {x1 : Int32} (X : cx p m meth c s args cX5_remain 7 RX5 D (tyG g)) (hr : meth.sig.returnType = none) {Q : RS → Prop} : ∀ (n : Nat) (i5 : Int32) (σ : RS), lq2 (wbX5_remain_216 x1 Q) n i5 σ → cW p l e rmX5_remain s m args below meth c (MQ below (va_Qv Q (fun u t => wd D A (rT g u) t.heap) A) args s 0 0 A) D A (rT g σ) 216 7 [(0, .ref (g.1 5000)), (1, .int x1), (5, .int i5)] := by
  obtain ⟨hx, hb, hml, hown, hts, hK, hlk⟩ := id X
  intro n
  induction n with
  | zero =>
    intro i5 σ h
    exact h.elim
  | succ n hN216 =>
    intro i5 σ h H locs ls hw hS hl
    replace h : wbX5_remain_216 x1 Q (lq2 (wbX5_remain_216 x1 Q) n) i5 σ := h
    unfold wbX5_remain_216 at h
    refine lv_iload hx hb dX5_remain_216 (lv_at hl 2 rfl) ?_
    refine lv_bipush (v := (9 : Int32)) hx hb dX5_remain_218 (by decide) ?_
    refine lv_icmp_ge (tgt := 254) hx hb dX5_remain_220 (by decide) (fun hc => ?_) (fun hc => ?_)
    · replace h := h.1 hc
      exact m_vret X hr hw hS h dX5_remain_254
    · replace h := h.2 hc
      refine lv_aload_n hx hb dX5_remain_223 rfl (lv_at hl 0 rfl) ?_
      refine m_get (v := .ref (g.1 5003)) X hw qM rfl inA_X5 2 (by decide) mw_79 rfl dX5_remain_224 ?_
      refine lv_bipush (v := (20 : Int32)) hx hb dX5_remain_227 (by decide) ?_
      refine lv_iload hx hb dX5_remain_229 (lv_at hl 2 rfl) ?_
      refine m_cSi (TT := rT g) (As := [.int (20 : Int32), .int i5]) (rest := [.ref (g.1 5003)]) X hl.1 hw hS (kX5_at hg h) mw_119 fX5_at ⟨rfl, rfl, Nat.le_of_ble_eq_true rfl, Nat.le_of_ble_eq_true rfl⟩ rfl rfl (Nat.le_of_ble_eq_true rfl) dX5_remain_231 (fun r1 σ2 H locs h hw hS => ?_)
      refine lv_aload_n hx hb dX5_remain_234 rfl (lv_at hl 0 rfl) ?_
      refine m_get (v := .ref (g.1 5003)) X hw qM rfl inA_X5 2 (by decide) mw_79 rfl dX5_remain_235 ?_
      refine lv_bipush (v := (20 : Int32)) hx hb dX5_remain_238 (by decide) ?_
      refine lv_iload hx hb dX5_remain_240 (lv_at hl 2 rfl) ?_
      refine m_cSi (TT := rT g) (As := [.int (20 : Int32), .int i5]) (rest := [.ref (g.1 5003), .int r1, .ref (g.1 5003)]) X hl.1 hw hS (kX5_at hg h) mw_119 fX5_at ⟨rfl, rfl, Nat.le_of_ble_eq_true rfl, Nat.le_of_ble_eq_true rfl⟩ rfl rfl (Nat.le_of_ble_eq_true rfl) dX5_remain_242 (fun r3 σ4 H locs h hw hS => ?_)
      obtain ⟨hi, h⟩ := h
      refine m_iald X hw qG 0 rfl hi dX5_remain_245 ?_
      refine lv_ineg hx hb dX5_remain_246 ?_
      obtain ⟨hi, h⟩ := h
      refine m_iast (T' := rT g (wG σ4 r1 (-(rG σ4 r3.toNatClampNeg)))) X hw hS qG 0 rfl hi (vG hg) dX5_remain_247 (fun H locs hw hS => ?_)
      obtain ⟨a5, ea5⟩ : ∃ z : Int32, z = i5 + (1 : Int32) := ⟨_, rfl⟩
      replace h := h a5 ea5
      refine lv_iinc (v := a5) (lv' := [(5, .int a5), (0, .ref (g.1 5000)), (1, .int x1)]) hx hb dX5_remain_248 hl (k := 2) rfl (by rw [ea5]; rfl) (by decide) rfl (fun ls hl => ?_)
      refine lv_goto (tgt := 216) hx hb dX5_remain_251 (by decide) ?_
      exact hN216 a5 _ h H locs ls hw hS (lv_sub hl [1, 2, 0] rfl)
def wbX5_remain_119 (x1 : Int32) (Q : RS → Prop) (N50 : Int32 → Int32 → Int32 → Int32 → RS → Prop) (N119 : Int32 → Int32 → Int32 → Int32 → Int32 → RS → Prop) (i2 : Int32) (i3 : Int32) (i4 : Int32) (i5 : Int32) (i6 : Int32) (σ : RS) : Prop :=
  (i2 < i6 →
    ∀ a6 : Int32, a6 = i5 + (-1 : Int32) →
    N50 i2 i3 i4 a6 σ) ∧
  (¬ i2 < i6 →
    wpX5_at (19 : Int32) i6 σ (fun (r7 : Int32) (σ8 : RS) =>
      wpX5_times (219 : Int32) (218 : Int32) r7 σ8 (fun (σ10 : RS) =>
        wpX5_at (20 : Int32) ((i6 + i5) - i2) σ10 (fun (r11 : Int32) (σ12 : RS) =>
          wpX5_at (20 : Int32) ((i6 + i5) - i2) σ12 (fun (r13 : Int32) (σ14 : RS) =>
            wpX5_sum r11 r13 (219 : Int32) (-1 : Int32) σ14 (fun (σ16 : RS) =>
              ∀ a17 : Int32, a17 = i6 + (1 : Int32) →
              N119 i2 i3 i4 i5 a17 σ16))))))
set_option maxRecDepth 100000 in
set_option maxHeartbeats 4000000 in
theorem wX5_remain_119 {p : Program} {l : Launch} {e : Env} {s : State} {m : MethodId} {args : Array Value} {below : List Frame} {meth : Method} {c : Code} {D : va_G} {A : Nat → Prop} {g : mG} (hg : inj g) {x1 : Int32} (X : cx p m meth c s args cX5_remain 7 RX5 D (tyG g)) (hr : meth.sig.returnType = none) {Q : RS → Prop} {N50 : Int32 → Int32 → Int32 → Int32 → RS → Prop} (hN50 : ∀ (i2 : Int32) (i3 : Int32) (i4 : Int32) (i5 : Int32) (σ : RS), N50 i2 i3 i4 i5 σ → cW p l e rmX5_remain s m args below meth c (MQ below (va_Qv Q (fun u t => wd D A (rT g u) t.heap) A) args s 0 0 A) D A (rT g σ) 50 7 [(0, .ref (g.1 5000)), (1, .int x1), (2, .int i2), (3, .int i3), (4, .int i4), (5, .int i5)]) : ∀ (n : Nat) (i2 : Int32) (i3 : Int32) (i4 : Int32) (i5 : Int32) (i6 : Int32) (σ : RS), lq6 (wbX5_remain_119 x1 Q N50) n i2 i3 i4 i5 i6 σ → cW p l e rmX5_remain s m args below meth c (MQ below (va_Qv Q (fun u t => wd D A (rT g u) t.heap) A) args s 0 0 A) D A (rT g σ) 119 7 [(0, .ref (g.1 5000)), (1, .int x1), (2, .int i2), (3, .int i3), (4, .int i4), (5, .int i5), (6, .int i6)] := by
  obtain ⟨hx, hb, hml, hown, hts, hK, hlk⟩ := id X
  intro n
  induction n with
  | zero =>
    intro i2 i3 i4 i5 i6 σ h
    exact h.elim
  | succ n hN119 =>
    intro i2 i3 i4 i5 i6 σ h H locs ls hw hS hl
    replace h : wbX5_remain_119 x1 Q N50 (lq6 (wbX5_remain_119 x1 Q N50) n) i2 i3 i4 i5 i6 σ := h
    unfold wbX5_remain_119 at h
    refine lv_iload hx hb dX5_remain_119 (lv_at hl 6 rfl) ?_
    refine lv_iload_n hx hb dX5_remain_121 rfl (lv_at hl 2 rfl) ?_
    refine lv_icmp_gt (tgt := 180) hx hb dX5_remain_122 (by decide) (fun hc => ?_) (fun hc => ?_)
    · replace h := h.1 hc
      obtain ⟨a6, ea6⟩ : ∃ z : Int32, z = i5 + (-1 : Int32) := ⟨_, rfl⟩
      replace h := h a6 ea6
      refine lv_iinc (v := a6) (lv' := [(5, .int a6), (0, .ref (g.1 5000)), (1, .int x1), (2, .int i2), (3, .int i3), (4, .int i4), (6, .int i6)]) hx hb dX5_remain_180 hl (k := 5) rfl (by rw [ea6]; rfl) (by decide) rfl (fun ls hl => ?_)
      refine lv_goto (tgt := 50) hx hb dX5_remain_183 (by decide) ?_
      exact hN50 i2 i3 i4 a6 _ h H locs ls hw hS (lv_sub hl [1, 2, 3, 4, 5, 0] rfl)
    · replace h := h.2 hc
      refine lv_aload_n hx hb dX5_remain_125 rfl (lv_at hl 0 rfl) ?_
      refine lv_sipush (v := (219 : Int32)) hx hb dX5_remain_126 (by decide) ?_
      refine lv_sipush (v := (218 : Int32)) hx hb dX5_remain_129 (by decide) ?_
      refine lv_bipush (v := (19 : Int32)) hx hb dX5_remain_132 (by decide) ?_
      refine lv_iload hx hb dX5_remain_134 (lv_at hl 6 rfl) ?_
      refine m_cSi (TT := rT g) (As := [.int (19 : Int32), .int i6]) (rest := [.int (218 : Int32), .int (219 : Int32), .ref (g.1 5000)]) X hl.1 hw hS (kX5_at hg h) mw_119 fX5_at ⟨rfl, rfl, Nat.le_of_ble_eq_true rfl, Nat.le_of_ble_eq_true rfl⟩ rfl rfl (Nat.le_of_ble_eq_true rfl) dX5_remain_136 (fun r7 σ8 H locs h hw hS => ?_)
      refine m_cVv (TT := rT g) (As := [.int (219 : Int32), .int (218 : Int32), .int r7]) (rest := []) X hl.1 hw hS (kX5_times hg h) mw_275 fX5_times qM rfl rfl ⟨rfl, rfl, Nat.le_of_ble_eq_true rfl, Nat.le_of_ble_eq_true rfl⟩ rfl rfl (Nat.le_of_ble_eq_true rfl) dX5_remain_139 (fun σ10 H locs h hw hS => ?_)
      refine lv_aload_n hx hb dX5_remain_142 rfl (lv_at hl 0 rfl) ?_
      refine lv_bipush (v := (20 : Int32)) hx hb dX5_remain_143 (by decide) ?_
      refine lv_iload hx hb dX5_remain_145 (lv_at hl 6 rfl) ?_
      refine lv_iload hx hb dX5_remain_147 (lv_at hl 5 rfl) ?_
      refine lv_iadd hx hb dX5_remain_149 ?_
      refine lv_iload_n hx hb dX5_remain_150 rfl (lv_at hl 2 rfl) ?_
      refine lv_isub hx hb dX5_remain_151 ?_
      refine m_cSi (TT := rT g) (As := [.int (20 : Int32), .int ((i6 + i5) - i2)]) (rest := [.ref (g.1 5000)]) X hl.1 hw hS (kX5_at hg h) mw_119 fX5_at ⟨rfl, rfl, Nat.le_of_ble_eq_true rfl, Nat.le_of_ble_eq_true rfl⟩ rfl rfl (Nat.le_of_ble_eq_true rfl) dX5_remain_152 (fun r11 σ12 H locs h hw hS => ?_)
      refine lv_bipush (v := (20 : Int32)) hx hb dX5_remain_155 (by decide) ?_
      refine lv_iload hx hb dX5_remain_157 (lv_at hl 6 rfl) ?_
      refine lv_iload hx hb dX5_remain_159 (lv_at hl 5 rfl) ?_
      refine lv_iadd hx hb dX5_remain_161 ?_
      refine lv_iload_n hx hb dX5_remain_162 rfl (lv_at hl 2 rfl) ?_
      refine lv_isub hx hb dX5_remain_163 ?_
      refine m_cSi (TT := rT g) (As := [.int (20 : Int32), .int ((i6 + i5) - i2)]) (rest := [.int r11, .ref (g.1 5000)]) X hl.1 hw hS (kX5_at hg h) mw_119 fX5_at ⟨rfl, rfl, Nat.le_of_ble_eq_true rfl, Nat.le_of_ble_eq_true rfl⟩ rfl rfl (Nat.le_of_ble_eq_true rfl) dX5_remain_164 (fun r13 σ14 H locs h hw hS => ?_)
      refine lv_sipush (v := (219 : Int32)) hx hb dX5_remain_167 (by decide) ?_
      refine lv_iconst (v := (-1 : Int32)) hx hb dX5_remain_170 (by decide) ?_
      refine m_cVv (TT := rT g) (As := [.int r11, .int r13, .int (219 : Int32), .int (-1 : Int32)]) (rest := []) X hl.1 hw hS (kX5_sum hg h) mw_155 fX5_sum qM rfl rfl ⟨rfl, rfl, Nat.le_of_ble_eq_true rfl, Nat.le_of_ble_eq_true rfl⟩ rfl rfl (Nat.le_of_ble_eq_true rfl) dX5_remain_171 (fun σ16 H locs h hw hS => ?_)
      obtain ⟨a17, ea17⟩ : ∃ z : Int32, z = i6 + (1 : Int32) := ⟨_, rfl⟩
      replace h := h a17 ea17
      refine lv_iinc (v := a17) (lv' := [(6, .int a17), (0, .ref (g.1 5000)), (1, .int x1), (2, .int i2), (3, .int i3), (4, .int i4), (5, .int i5)]) hx hb dX5_remain_174 hl (k := 6) rfl (by rw [ea17]; rfl) (by decide) rfl (fun ls hl => ?_)
      refine lv_goto (tgt := 119) hx hb dX5_remain_177 (by decide) ?_
      exact hN119 i2 i3 i4 i5 a17 _ h H locs ls hw hS (lv_sub hl [1, 2, 3, 4, 5, 6, 0] rfl)
def wbX5_remain_73 (x1 : Int32) (Q : RS → Prop) (N50 : Int32 → Int32 → Int32 → Int32 → RS → Prop) (N73 : Int32 → Int32 → Int32 → Int32 → Int32 → RS → Prop) (i2 : Int32) (i3 : Int32) (i4 : Int32) (i5 : Int32) (i6 : Int32) (σ : RS) : Prop :=
  ((8 : Int32) < i6 →
    ∃ n, lq6 (wbX5_remain_119 x1 Q N50) n i2 i3 i4 i5 (0 : Int32) σ) ∧
  (¬ (8 : Int32) < i6 →
    wpX5_at (20 : Int32) i6 σ (fun (r18 : Int32) (σ19 : RS) =>
      wpX5_times (219 : Int32) r18 i4 σ19 (fun (σ21 : RS) =>
        wpX5_at (20 : Int32) i6 σ21 (fun (r22 : Int32) (σ23 : RS) =>
          wpX5_copy (219 : Int32) r22 σ23 (fun (σ25 : RS) =>
            ∀ a26 : Int32, a26 = i6 + (1 : Int32) →
            N73 i2 i3 i4 i5 a26 σ25)))))
set_option maxRecDepth 100000 in
set_option maxHeartbeats 4000000 in
theorem wX5_remain_73 {p : Program} {l : Launch} {e : Env} {s : State} {m : MethodId} {args : Array Value} {below : List Frame} {meth : Method} {c : Code} {D : va_G} {A : Nat → Prop} {g : mG} (hg : inj g) {x1 : Int32} (X : cx p m meth c s args cX5_remain 7 RX5 D (tyG g)) (hr : meth.sig.returnType = none) {Q : RS → Prop} {N50 : Int32 → Int32 → Int32 → Int32 → RS → Prop} (hN50 : ∀ (i2 : Int32) (i3 : Int32) (i4 : Int32) (i5 : Int32) (σ : RS), N50 i2 i3 i4 i5 σ → cW p l e rmX5_remain s m args below meth c (MQ below (va_Qv Q (fun u t => wd D A (rT g u) t.heap) A) args s 0 0 A) D A (rT g σ) 50 7 [(0, .ref (g.1 5000)), (1, .int x1), (2, .int i2), (3, .int i3), (4, .int i4), (5, .int i5)]) : ∀ (n : Nat) (i2 : Int32) (i3 : Int32) (i4 : Int32) (i5 : Int32) (i6 : Int32) (σ : RS), lq6 (wbX5_remain_73 x1 Q N50) n i2 i3 i4 i5 i6 σ → cW p l e rmX5_remain s m args below meth c (MQ below (va_Qv Q (fun u t => wd D A (rT g u) t.heap) A) args s 0 0 A) D A (rT g σ) 73 7 [(0, .ref (g.1 5000)), (1, .int x1), (2, .int i2), (3, .int i3), (4, .int i4), (5, .int i5), (6, .int i6)] := by
  obtain ⟨hx, hb, hml, hown, hts, hK, hlk⟩ := id X
  intro n
  induction n with
  | zero =>
    intro i2 i3 i4 i5 i6 σ h
    exact h.elim
  | succ n hN73 =>
    intro i2 i3 i4 i5 i6 σ h H locs ls hw hS hl
    replace h : wbX5_remain_73 x1 Q N50 (lq6 (wbX5_remain_73 x1 Q N50) n) i2 i3 i4 i5 i6 σ := h
    unfold wbX5_remain_73 at h
    refine lv_iload hx hb dX5_remain_73 (lv_at hl 6 rfl) ?_
    refine lv_bipush (v := (8 : Int32)) hx hb dX5_remain_75 (by decide) ?_
    refine lv_icmp_gt (tgt := 116) hx hb dX5_remain_77 (by decide) (fun hc => ?_) (fun hc => ?_)
    · replace h := h.1 hc
      refine lv_iconst (v := (0 : Int32)) hx hb dX5_remain_116 (by decide) ?_
      refine lv_istore (lv' := [(6, .int (0 : Int32)), (0, .ref (g.1 5000)), (1, .int x1), (2, .int i2), (3, .int i3), (4, .int i4), (5, .int i5)]) hx hb dX5_remain_117 hl (by decide) rfl (fun ls hl => ?_)
      obtain ⟨n9, h⟩ := h
      exact wX5_remain_119 hg X hr hN50 n9 i2 i3 i4 i5 (0 : Int32) _ h H locs ls hw hS (lv_sub hl [1, 2, 3, 4, 5, 6, 0] rfl)
    · replace h := h.2 hc
      refine lv_aload_n hx hb dX5_remain_80 rfl (lv_at hl 0 rfl) ?_
      refine lv_sipush (v := (219 : Int32)) hx hb dX5_remain_81 (by decide) ?_
      refine lv_bipush (v := (20 : Int32)) hx hb dX5_remain_84 (by decide) ?_
      refine lv_iload hx hb dX5_remain_86 (lv_at hl 6 rfl) ?_
      refine m_cSi (TT := rT g) (As := [.int (20 : Int32), .int i6]) (rest := [.int (219 : Int32), .ref (g.1 5000)]) X hl.1 hw hS (kX5_at hg h) mw_119 fX5_at ⟨rfl, rfl, Nat.le_of_ble_eq_true rfl, Nat.le_of_ble_eq_true rfl⟩ rfl rfl (Nat.le_of_ble_eq_true rfl) dX5_remain_88 (fun r18 σ19 H locs h hw hS => ?_)
      refine lv_iload hx hb dX5_remain_91 (lv_at hl 4 rfl) ?_
      refine m_cVv (TT := rT g) (As := [.int (219 : Int32), .int r18, .int i4]) (rest := []) X hl.1 hw hS (kX5_times hg h) mw_275 fX5_times qM rfl rfl ⟨rfl, rfl, Nat.le_of_ble_eq_true rfl, Nat.le_of_ble_eq_true rfl⟩ rfl rfl (Nat.le_of_ble_eq_true rfl) dX5_remain_93 (fun σ21 H locs h hw hS => ?_)
      refine lv_aload_n hx hb dX5_remain_96 rfl (lv_at hl 0 rfl) ?_
      refine lv_sipush (v := (219 : Int32)) hx hb dX5_remain_97 (by decide) ?_
      refine lv_bipush (v := (20 : Int32)) hx hb dX5_remain_100 (by decide) ?_
      refine lv_iload hx hb dX5_remain_102 (lv_at hl 6 rfl) ?_
      refine m_cSi (TT := rT g) (As := [.int (20 : Int32), .int i6]) (rest := [.int (219 : Int32), .ref (g.1 5000)]) X hl.1 hw hS (kX5_at hg h) mw_119 fX5_at ⟨rfl, rfl, Nat.le_of_ble_eq_true rfl, Nat.le_of_ble_eq_true rfl⟩ rfl rfl (Nat.le_of_ble_eq_true rfl) dX5_remain_104 (fun r22 σ23 H locs h hw hS => ?_)
      refine m_cVv (TT := rT g) (As := [.int (219 : Int32), .int r22]) (rest := []) X hl.1 hw hS (kX5_copy hg h) mw_159 fX5_copy qM rfl rfl ⟨rfl, rfl, Nat.le_of_ble_eq_true rfl, Nat.le_of_ble_eq_true rfl⟩ rfl rfl (Nat.le_of_ble_eq_true rfl) dX5_remain_107 (fun σ25 H locs h hw hS => ?_)
      obtain ⟨a26, ea26⟩ : ∃ z : Int32, z = i6 + (1 : Int32) := ⟨_, rfl⟩
      replace h := h a26 ea26
      refine lv_iinc (v := a26) (lv' := [(6, .int a26), (0, .ref (g.1 5000)), (1, .int x1), (2, .int i2), (3, .int i3), (4, .int i4), (5, .int i5)]) hx hb dX5_remain_110 hl (k := 6) rfl (by rw [ea26]; rfl) (by decide) rfl (fun ls hl => ?_)
      refine lv_goto (tgt := 73) hx hb dX5_remain_113 (by decide) ?_
      exact hN73 i2 i3 i4 i5 a26 _ h H locs ls hw hS (lv_sub hl [1, 2, 3, 4, 5, 6, 0] rfl)
def wbX5_remain_50 (x1 : Int32) (Q : RS → Prop) (N50 : Int32 → Int32 → Int32 → Int32 → RS → Prop) (i2 : Int32) (i3 : Int32) (i4 : Int32) (i5 : Int32) (σ : RS) : Prop :=
  (i5 < i2 →
    wpX5_measure (20 : Int32) σ (fun (σ28 : RS) =>
      (x1 = 0 →
        Q σ28) ∧
      (¬ x1 = 0 →
        vp_in i4 227 ∧ (
        (0 ≤ (rG σ28 i4.toNatClampNeg) →
          Q σ28) ∧
        (¬ 0 ≤ (rG σ28 i4.toNatClampNeg) →
          (¬ (i3 - i3 / (2 : Int32) * (2 : Int32)) = (1 : Int32) →
            Q σ28) ∧
          ((i3 - i3 / (2 : Int32) * (2 : Int32)) = (1 : Int32) →
            ∃ n, lq2 (wbX5_remain_216 x1 Q) n (0 : Int32) σ28)))))) ∧
  (¬ i5 < i2 →
    wpX5_at (20 : Int32) i5 σ (fun (r29 : Int32) (σ30 : RS) =>
      wpX5_copy r29 (218 : Int32) σ30 (fun (σ32 : RS) =>
        ∃ n, lq6 (wbX5_remain_73 x1 Q N50) n i2 i3 i4 i5 (0 : Int32) σ32)))
set_option maxRecDepth 100000 in
set_option maxHeartbeats 4000000 in
theorem wX5_remain_50 {p : Program} {l : Launch} {e : Env} {s : State} {m : MethodId} {args : Array Value} {below : List Frame} {meth : Method} {c : Code} {D : va_G} {A : Nat → Prop} {g : mG} (hg : inj g) {x1 : Int32} (X : cx p m meth c s args cX5_remain 7 RX5 D (tyG g)) (hr : meth.sig.returnType = none) {Q : RS → Prop} : ∀ (n : Nat) (i2 : Int32) (i3 : Int32) (i4 : Int32) (i5 : Int32) (σ : RS), lq5 (wbX5_remain_50 x1 Q) n i2 i3 i4 i5 σ → cW p l e rmX5_remain s m args below meth c (MQ below (va_Qv Q (fun u t => wd D A (rT g u) t.heap) A) args s 0 0 A) D A (rT g σ) 50 7 [(0, .ref (g.1 5000)), (1, .int x1), (2, .int i2), (3, .int i3), (4, .int i4), (5, .int i5)] := by
  obtain ⟨hx, hb, hml, hown, hts, hK, hlk⟩ := id X
  intro n
  induction n with
  | zero =>
    intro i2 i3 i4 i5 σ h
    exact h.elim
  | succ n hN50 =>
    intro i2 i3 i4 i5 σ h H locs ls hw hS hl
    replace h : wbX5_remain_50 x1 Q (lq5 (wbX5_remain_50 x1 Q) n) i2 i3 i4 i5 σ := h
    unfold wbX5_remain_50 at h
    refine lv_iload hx hb dX5_remain_50 (lv_at hl 5 rfl) ?_
    refine lv_iload_n hx hb dX5_remain_52 rfl (lv_at hl 2 rfl) ?_
    refine lv_icmp_lt (tgt := 186) hx hb dX5_remain_53 (by decide) (fun hc => ?_) (fun hc => ?_)
    · replace h := h.1 hc
      refine lv_aload_n hx hb dX5_remain_186 rfl (lv_at hl 0 rfl) ?_
      refine lv_bipush (v := (20 : Int32)) hx hb dX5_remain_187 (by decide) ?_
      refine m_cVv (TT := rT g) (As := [.int (20 : Int32)]) (rest := []) X hl.1 hw hS (kX5_measure hg h) mw_126 fX5_measure qM rfl rfl ⟨rfl, rfl, Nat.le_of_ble_eq_true rfl, Nat.le_of_ble_eq_true rfl⟩ rfl rfl (Nat.le_of_ble_eq_true rfl) dX5_remain_189 (fun σ28 H locs h hw hS => ?_)
      refine lv_iload_n hx hb dX5_remain_192 rfl (lv_at hl 1 rfl) ?_
      refine lv_if_eq (tgt := 254) hx hb dX5_remain_193 (by decide) (fun hc => ?_) (fun hc => ?_)
      · replace h := h.1 hc
        exact m_vret X hr hw hS h dX5_remain_254
      · replace h := h.2 hc
        refine lv_aload_n hx hb dX5_remain_196 rfl (lv_at hl 0 rfl) ?_
        refine m_get (v := .ref (g.1 5003)) X hw qM rfl inA_X5 2 (by decide) mw_79 rfl dX5_remain_197 ?_
        refine lv_iload hx hb dX5_remain_200 (lv_at hl 4 rfl) ?_
        obtain ⟨hi, h⟩ := h
        refine m_iald X hw qG 0 rfl hi dX5_remain_202 ?_
        refine lv_if_ge (tgt := 254) hx hb dX5_remain_203 (by decide) (fun hc => ?_) (fun hc => ?_)
        · replace h := h.1 hc
          exact m_vret X hr hw hS h dX5_remain_254
        · replace h := h.2 hc
          refine lv_iload_n hx hb dX5_remain_206 rfl (lv_at hl 3 rfl) ?_
          refine lv_iconst (v := (2 : Int32)) hx hb dX5_remain_207 (by decide) ?_
          refine lv_irem hx hb dX5_remain_208 (by decide) ?_
          refine lv_iconst (v := (1 : Int32)) hx hb dX5_remain_209 (by decide) ?_
          refine lv_icmp_ne (tgt := 254) hx hb dX5_remain_210 (by decide) (fun hc => ?_) (fun hc => ?_)
          · replace h := h.1 hc
            exact m_vret X hr hw hS h dX5_remain_254
          · replace h := h.2 hc
            refine lv_iconst (v := (0 : Int32)) hx hb dX5_remain_213 (by decide) ?_
            refine lv_istore (lv' := [(5, .int (0 : Int32)), (0, .ref (g.1 5000)), (1, .int x1), (2, .int i2), (3, .int i3), (4, .int i4)]) hx hb dX5_remain_214 hl (by decide) rfl (fun ls hl => ?_)
            obtain ⟨n9, h⟩ := h
            exact wX5_remain_216 hg X hr n9 (0 : Int32) _ h H locs ls hw hS (lv_sub hl [1, 2, 0] rfl)
    · replace h := h.2 hc
      refine lv_aload_n hx hb dX5_remain_56 rfl (lv_at hl 0 rfl) ?_
      refine lv_bipush (v := (20 : Int32)) hx hb dX5_remain_57 (by decide) ?_
      refine lv_iload hx hb dX5_remain_59 (lv_at hl 5 rfl) ?_
      refine m_cSi (TT := rT g) (As := [.int (20 : Int32), .int i5]) (rest := [.ref (g.1 5000)]) X hl.1 hw hS (kX5_at hg h) mw_119 fX5_at ⟨rfl, rfl, Nat.le_of_ble_eq_true rfl, Nat.le_of_ble_eq_true rfl⟩ rfl rfl (Nat.le_of_ble_eq_true rfl) dX5_remain_61 (fun r29 σ30 H locs h hw hS => ?_)
      refine lv_sipush (v := (218 : Int32)) hx hb dX5_remain_64 (by decide) ?_
      refine m_cVv (TT := rT g) (As := [.int r29, .int (218 : Int32)]) (rest := []) X hl.1 hw hS (kX5_copy hg h) mw_159 fX5_copy qM rfl rfl ⟨rfl, rfl, Nat.le_of_ble_eq_true rfl, Nat.le_of_ble_eq_true rfl⟩ rfl rfl (Nat.le_of_ble_eq_true rfl) dX5_remain_67 (fun σ32 H locs h hw hS => ?_)
      refine lv_iconst (v := (0 : Int32)) hx hb dX5_remain_70 (by decide) ?_
      refine lv_istore (lv' := [(6, .int (0 : Int32)), (0, .ref (g.1 5000)), (1, .int x1), (2, .int i2), (3, .int i3), (4, .int i4), (5, .int i5)]) hx hb dX5_remain_71 hl (by decide) rfl (fun ls hl => ?_)
      obtain ⟨n9, h⟩ := h
      exact wX5_remain_73 hg X hr hN50 n9 i2 i3 i4 i5 (0 : Int32) _ h H locs ls hw hS (lv_sub hl [1, 2, 3, 4, 5, 6, 0] rfl)
def wpX5_remain_0 (x1 : Int32) (Q : RS → Prop) (σ : RS) : Prop :=
  wpX5_copyAll (18 : Int32) (20 : Int32) σ (fun (σ34 : RS) =>
    vp_in (19 : Int32) 24 ∧ (
    ∀ a35 : Int32, a35 = rD σ34 (19 : Int32).toNatClampNeg →
    vp_in (18 : Int32) 24 ∧ (
    ∀ a36 : Int32, a36 = ((rD σ34 (18 : Int32).toNatClampNeg) - a35) + (1 : Int32) →
    (0 < a36 →
      wpX5_at (19 : Int32) a35 σ34 (fun (r37 : Int32) (σ38 : RS) =>
        vp_in (18 : Int32) 24 ∧ (
        ∀ a39 : Int32, a39 = rD σ38 (18 : Int32).toNatClampNeg →
        ∃ n, lq5 (wbX5_remain_50 x1 Q) n a35 a36 r37 a39 σ38))) ∧
    (¬ 0 < a36 →
      Q σ34))))
set_option maxRecDepth 100000 in
set_option maxHeartbeats 4000000 in
theorem wX5_remain_0 {p : Program} {l : Launch} {e : Env} {s : State} {m : MethodId} {args : Array Value} {below : List Frame} {meth : Method} {c : Code} {D : va_G} {A : Nat → Prop} {g : mG} (hg : inj g) {x1 : Int32} (X : cx p m meth c s args cX5_remain 7 RX5 D (tyG g)) (hr : meth.sig.returnType = none) {Q : RS → Prop} : ∀ (σ : RS), wpX5_remain_0 x1 Q σ → cW p l e rmX5_remain s m args below meth c (MQ below (va_Qv Q (fun u t => wd D A (rT g u) t.heap) A) args s 0 0 A) D A (rT g σ) 0 7 [(0, .ref (g.1 5000)), (1, .int x1)] := by
  obtain ⟨hx, hb, hml, hown, hts, hK, hlk⟩ := id X
  intro σ h H locs ls hw hS hl
  unfold wpX5_remain_0 at h
  refine lv_aload_n hx hb dX5_remain_0 rfl (lv_at hl 0 rfl) ?_
  refine lv_bipush (v := (18 : Int32)) hx hb dX5_remain_1 (by decide) ?_
  refine lv_bipush (v := (20 : Int32)) hx hb dX5_remain_3 (by decide) ?_
  refine m_cVv (TT := rT g) (As := [.int (18 : Int32), .int (20 : Int32)]) (rest := []) X hl.1 hw hS (kX5_copyAll hg h) mw_239 fX5_copyAll qM rfl rfl ⟨rfl, rfl, Nat.le_of_ble_eq_true rfl, Nat.le_of_ble_eq_true rfl⟩ rfl rfl (Nat.le_of_ble_eq_true rfl) dX5_remain_5 (fun σ34 H locs h hw hS => ?_)
  refine lv_aload_n hx hb dX5_remain_8 rfl (lv_at hl 0 rfl) ?_
  refine m_get (v := .ref (g.1 5004)) X hw qM rfl inA_X5 3 (by decide) mw_80 rfl dX5_remain_9 ?_
  refine lv_bipush (v := (19 : Int32)) hx hb dX5_remain_12 (by decide) ?_
  obtain ⟨hi, h⟩ := h
  refine m_iald X hw qD 0 rfl hi dX5_remain_14 ?_
  refine lv_topi (fun a35 ea35 => ?_)
  replace h := h a35 ea35
  refine lv_istore_n (lv' := [(2, .int a35), (0, .ref (g.1 5000)), (1, .int x1)]) hx hb dX5_remain_15 rfl hl (by decide) rfl (fun ls hl => ?_)
  refine lv_aload_n hx hb dX5_remain_16 rfl (lv_at hl 1 rfl) ?_
  refine m_get (v := .ref (g.1 5004)) X hw qM rfl inA_X5 3 (by decide) mw_80 rfl dX5_remain_17 ?_
  refine lv_bipush (v := (18 : Int32)) hx hb dX5_remain_20 (by decide) ?_
  obtain ⟨hi, h⟩ := h
  refine m_iald X hw qD 0 rfl hi dX5_remain_22 ?_
  refine lv_iload_n hx hb dX5_remain_23 rfl (lv_at hl 0 rfl) ?_
  refine lv_isub hx hb dX5_remain_24 ?_
  refine lv_iconst (v := (1 : Int32)) hx hb dX5_remain_25 (by decide) ?_
  refine lv_iadd hx hb dX5_remain_26 ?_
  refine lv_topi (fun a36 ea36 => ?_)
  replace h := h a36 ea36
  refine lv_istore_n (lv' := [(3, .int a36), (2, .int a35), (0, .ref (g.1 5000)), (1, .int x1)]) hx hb dX5_remain_27 rfl hl (by decide) rfl (fun ls hl => ?_)
  refine lv_iload_n hx hb dX5_remain_28 rfl (lv_at hl 0 rfl) ?_
  refine lv_if_gt (tgt := 33) hx hb dX5_remain_29 (by decide) (fun hc => ?_) (fun hc => ?_)
  · replace h := h.1 hc
    refine lv_bipush (v := (19 : Int32)) hx hb dX5_remain_33 (by decide) ?_
    refine lv_iload_n hx hb dX5_remain_35 rfl (lv_at hl 1 rfl) ?_
    refine m_cSi (TT := rT g) (As := [.int (19 : Int32), .int a35]) (rest := []) X hl.1 hw hS (kX5_at hg h) mw_119 fX5_at ⟨rfl, rfl, Nat.le_of_ble_eq_true rfl, Nat.le_of_ble_eq_true rfl⟩ rfl rfl (Nat.le_of_ble_eq_true rfl) dX5_remain_36 (fun r37 σ38 H locs h hw hS => ?_)
    refine lv_istore (lv' := [(4, .int r37), (3, .int a36), (2, .int a35), (0, .ref (g.1 5000)), (1, .int x1)]) hx hb dX5_remain_39 hl (by decide) rfl (fun ls hl => ?_)
    refine lv_aload_n hx hb dX5_remain_41 rfl (lv_at hl 3 rfl) ?_
    refine m_get (v := .ref (g.1 5004)) X hw qM rfl inA_X5 3 (by decide) mw_80 rfl dX5_remain_42 ?_
    refine lv_bipush (v := (18 : Int32)) hx hb dX5_remain_45 (by decide) ?_
    obtain ⟨hi, h⟩ := h
    refine m_iald X hw qD 0 rfl hi dX5_remain_47 ?_
    refine lv_topi (fun a39 ea39 => ?_)
    replace h := h a39 ea39
    refine lv_istore (lv' := [(5, .int a39), (4, .int r37), (3, .int a36), (2, .int a35), (0, .ref (g.1 5000)), (1, .int x1)]) hx hb dX5_remain_48 hl (by decide) rfl (fun ls hl => ?_)
    obtain ⟨n9, h⟩ := h
    exact wX5_remain_50 hg X hr n9 a35 a36 r37 a39 _ h H locs ls hw hS (lv_sub hl [4, 5, 3, 2, 1, 0] rfl)
  · replace h := h.2 hc
    exact m_vret X hr hw hS h dX5_remain_32
def wpX5_remain (x1 : Int32) (σ : RS) (Q : RS → Prop) : Prop := wpX5_remain_0 x1 Q σ
theorem kX5_remain {l : Launch} {D : va_G} {A : Nat → Prop} {g : mG} (hg : inj g) {x1 : Int32} {σ : RS} {Q : RS → Prop} (h : wpX5_remain x1 σ Q) : Met l yX5_remain (Cond.code yX5_remain cX5_remain 7 none :: wsA) rmX5_remain (mPc D (tyG g) A (rT g σ) [.ref (g.1 5000), .int x1]) (va_Qv Q (fun u t => wd D A (rT g u) t.heap) A) 0 0 A :=
  m_met (by decide +kernel) (Nat.le_of_ble_eq_true rfl) (fun p e s m below meth c X hr H locs ls hw hS hl => wX5_remain_0 hg X hr σ h H locs ls hw hS (lv_sub hl [0, 1] rfl))
theorem fX5_remain : vfit yX5_remain cX5_remain 7 none 1 := ⟨mw_345, mw_346, mw_5, mw_347, by decide +kernel, by decide +kernel, by decide +kernel⟩
/-! BigPolysModel.divisor()V -/
def rmX5_divisor : Room := { frames := 5, cells := 0, slots := 0, locals := 137 }
def wbX5_divisor_34 (Q : RS → Prop) (N34 : RS → Prop) (σ : RS) : Prop :=
  vp_in (19 : Int32) 24 ∧ (
  ((rD σ (19 : Int32).toNatClampNeg) < 0 →
    Q σ) ∧
  (¬ (rD σ (19 : Int32).toNatClampNeg) < 0 →
    vp_in (18 : Int32) 24 ∧ (
    (0 ≤ (rD σ (18 : Int32).toNatClampNeg) →
      wpX5_remain (0 : Int32) σ (fun (σ2 : RS) =>
        wpX5_copyAll (19 : Int32) (18 : Int32) σ2 (fun (σ4 : RS) =>
          wpX5_copyAll (20 : Int32) (19 : Int32) σ4 (fun (σ6 : RS) =>
            vp_in (19 : Int32) 24 ∧ (
            ((rD σ6 (19 : Int32).toNatClampNeg) < 0 →
              N34 σ6) ∧
            (¬ (rD σ6 (19 : Int32).toNatClampNeg) < 0 →
              wpX5_makePrimitive (19 : Int32) (0 : Int32) σ6 (fun (σ8 : RS) =>
                N34 σ8))))))) ∧
    (¬ 0 ≤ (rD σ (18 : Int32).toNatClampNeg) →
      wpX5_copyAll (19 : Int32) (18 : Int32) σ (fun (σ10 : RS) =>
        wpX5_clear (19 : Int32) σ10 (fun (σ12 : RS) =>
          Q σ12))))))
set_option maxRecDepth 100000 in
set_option maxHeartbeats 4000000 in
theorem wX5_divisor_34 {p : Program} {l : Launch} {e : Env} {s : State} {m : MethodId} {args : Array Value} {below : List Frame} {meth : Method} {c : Code} {D : va_G} {A : Nat → Prop} {g : mG} (hg : inj g) (X : cx p m meth c s args cX5_divisor 1 RX5 D (tyG g)) (hr : meth.sig.returnType = none) {Q : RS → Prop} : ∀ (n : Nat) (σ : RS), lq1 (wbX5_divisor_34 Q) n σ → cW p l e rmX5_divisor s m args below meth c (MQ below (va_Qv Q (fun u t => wd D A (rT g u) t.heap) A) args s 0 0 A) D A (rT g σ) 34 1 [(0, .ref (g.1 5000))] := by
  obtain ⟨hx, hb, hml, hown, hts, hK, hlk⟩ := id X
  intro n
  induction n with
  | zero =>
    intro σ h
    exact h.elim
  | succ n hN34 =>
    intro σ h H locs ls hw hS hl
    replace h : wbX5_divisor_34 Q (lq1 (wbX5_divisor_34 Q) n) σ := h
    unfold wbX5_divisor_34 at h
    refine lv_aload_n hx hb dX5_divisor_34 rfl (lv_at hl 0 rfl) ?_
    refine m_get (v := .ref (g.1 5004)) X hw qM rfl inA_X5 3 (by decide) mw_80 rfl dX5_divisor_35 ?_
    refine lv_bipush (v := (19 : Int32)) hx hb dX5_divisor_38 (by decide) ?_
    obtain ⟨hi, h⟩ := h
    refine m_iald X hw qD 0 rfl hi dX5_divisor_40 ?_
    refine lv_if_lt (tgt := 110) hx hb dX5_divisor_41 (by decide) (fun hc => ?_) (fun hc => ?_)
    · replace h := h.1 hc
      exact m_vret X hr hw hS h dX5_divisor_110
    · replace h := h.2 hc
      refine lv_aload_n hx hb dX5_divisor_44 rfl (lv_at hl 0 rfl) ?_
      refine m_get (v := .ref (g.1 5004)) X hw qM rfl inA_X5 3 (by decide) mw_80 rfl dX5_divisor_45 ?_
      refine lv_bipush (v := (18 : Int32)) hx hb dX5_divisor_48 (by decide) ?_
      obtain ⟨hi, h⟩ := h
      refine m_iald X hw qD 0 rfl hi dX5_divisor_50 ?_
      refine lv_if_ge (tgt := 69) hx hb dX5_divisor_51 (by decide) (fun hc => ?_) (fun hc => ?_)
      · replace h := h.1 hc
        refine lv_aload_n hx hb dX5_divisor_69 rfl (lv_at hl 0 rfl) ?_
        refine lv_iconst (v := (0 : Int32)) hx hb dX5_divisor_70 (by decide) ?_
        refine m_cVv (TT := rT g) (As := [.int (0 : Int32)]) (rest := []) X hl.1 hw hS (kX5_remain hg h) mw_344 fX5_remain qM rfl rfl ⟨rfl, rfl, Nat.le_of_ble_eq_true rfl, Nat.le_of_ble_eq_true rfl⟩ rfl rfl (Nat.le_of_ble_eq_true rfl) dX5_divisor_71 (fun σ2 H locs h hw hS => ?_)
        refine lv_aload_n hx hb dX5_divisor_74 rfl (lv_at hl 0 rfl) ?_
        refine lv_bipush (v := (19 : Int32)) hx hb dX5_divisor_75 (by decide) ?_
        refine lv_bipush (v := (18 : Int32)) hx hb dX5_divisor_77 (by decide) ?_
        refine m_cVv (TT := rT g) (As := [.int (19 : Int32), .int (18 : Int32)]) (rest := []) X hl.1 hw hS (kX5_copyAll hg h) mw_239 fX5_copyAll qM rfl rfl ⟨rfl, rfl, Nat.le_of_ble_eq_true rfl, Nat.le_of_ble_eq_true rfl⟩ rfl rfl (Nat.le_of_ble_eq_true rfl) dX5_divisor_79 (fun σ4 H locs h hw hS => ?_)
        refine lv_aload_n hx hb dX5_divisor_82 rfl (lv_at hl 0 rfl) ?_
        refine lv_bipush (v := (20 : Int32)) hx hb dX5_divisor_83 (by decide) ?_
        refine lv_bipush (v := (19 : Int32)) hx hb dX5_divisor_85 (by decide) ?_
        refine m_cVv (TT := rT g) (As := [.int (20 : Int32), .int (19 : Int32)]) (rest := []) X hl.1 hw hS (kX5_copyAll hg h) mw_239 fX5_copyAll qM rfl rfl ⟨rfl, rfl, Nat.le_of_ble_eq_true rfl, Nat.le_of_ble_eq_true rfl⟩ rfl rfl (Nat.le_of_ble_eq_true rfl) dX5_divisor_87 (fun σ6 H locs h hw hS => ?_)
        refine lv_aload_n hx hb dX5_divisor_90 rfl (lv_at hl 0 rfl) ?_
        refine m_get (v := .ref (g.1 5004)) X hw qM rfl inA_X5 3 (by decide) mw_80 rfl dX5_divisor_91 ?_
        refine lv_bipush (v := (19 : Int32)) hx hb dX5_divisor_94 (by decide) ?_
        obtain ⟨hi, h⟩ := h
        refine m_iald X hw qD 0 rfl hi dX5_divisor_96 ?_
        refine lv_if_lt (tgt := 34) hx hb dX5_divisor_97 (by decide) (fun hc => ?_) (fun hc => ?_)
        · replace h := h.1 hc
          exact hN34 _ h H locs ls hw hS (lv_sub hl [0] rfl)
        · replace h := h.2 hc
          refine lv_aload_n hx hb dX5_divisor_100 rfl (lv_at hl 0 rfl) ?_
          refine lv_bipush (v := (19 : Int32)) hx hb dX5_divisor_101 (by decide) ?_
          refine lv_iconst (v := (0 : Int32)) hx hb dX5_divisor_103 (by decide) ?_
          refine m_cVv (TT := rT g) (As := [.int (19 : Int32), .int (0 : Int32)]) (rest := []) X hl.1 hw hS (kX5_makePrimitive hg h) mw_472 fX5_makePrimitive qM rfl rfl ⟨rfl, rfl, Nat.le_of_ble_eq_true rfl, Nat.le_of_ble_eq_true rfl⟩ rfl rfl (Nat.le_of_ble_eq_true rfl) dX5_divisor_104 (fun σ8 H locs h hw hS => ?_)
          refine lv_goto (tgt := 34) hx hb dX5_divisor_107 (by decide) ?_
          exact hN34 _ h H locs ls hw hS (lv_sub hl [0] rfl)
      · replace h := h.2 hc
        refine lv_aload_n hx hb dX5_divisor_54 rfl (lv_at hl 0 rfl) ?_
        refine lv_bipush (v := (19 : Int32)) hx hb dX5_divisor_55 (by decide) ?_
        refine lv_bipush (v := (18 : Int32)) hx hb dX5_divisor_57 (by decide) ?_
        refine m_cVv (TT := rT g) (As := [.int (19 : Int32), .int (18 : Int32)]) (rest := []) X hl.1 hw hS (kX5_copyAll hg h) mw_239 fX5_copyAll qM rfl rfl ⟨rfl, rfl, Nat.le_of_ble_eq_true rfl, Nat.le_of_ble_eq_true rfl⟩ rfl rfl (Nat.le_of_ble_eq_true rfl) dX5_divisor_59 (fun σ10 H locs h hw hS => ?_)
        refine lv_aload_n hx hb dX5_divisor_62 rfl (lv_at hl 0 rfl) ?_
        refine lv_bipush (v := (19 : Int32)) hx hb dX5_divisor_63 (by decide) ?_
        refine m_cVv (TT := rT g) (As := [.int (19 : Int32)]) (rest := []) X hl.1 hw hS (kX5_clear hg h) mw_271 fX5_clear qM rfl rfl ⟨rfl, rfl, Nat.le_of_ble_eq_true rfl, Nat.le_of_ble_eq_true rfl⟩ rfl rfl (Nat.le_of_ble_eq_true rfl) dX5_divisor_65 (fun σ12 H locs h hw hS => ?_)
        exact m_vret X hr hw hS h dX5_divisor_68
def wpX5_divisor_17 (Q : RS → Prop) (σ : RS) : Prop :=
  vp_in (19 : Int32) 24 ∧ (
  ((rD σ (19 : Int32).toNatClampNeg) < 0 →
    ∃ n, lq1 (wbX5_divisor_34 Q) n σ) ∧
  (¬ (rD σ (19 : Int32).toNatClampNeg) < 0 →
    wpX5_makePrimitive (19 : Int32) (0 : Int32) σ (fun (σ14 : RS) =>
      ∃ n, lq1 (wbX5_divisor_34 Q) n σ14)))
set_option maxRecDepth 100000 in
set_option maxHeartbeats 4000000 in
theorem wX5_divisor_17 {p : Program} {l : Launch} {e : Env} {s : State} {m : MethodId} {args : Array Value} {below : List Frame} {meth : Method} {c : Code} {D : va_G} {A : Nat → Prop} {g : mG} (hg : inj g) (X : cx p m meth c s args cX5_divisor 1 RX5 D (tyG g)) (hr : meth.sig.returnType = none) {Q : RS → Prop} : ∀ (σ : RS), wpX5_divisor_17 Q σ → cW p l e rmX5_divisor s m args below meth c (MQ below (va_Qv Q (fun u t => wd D A (rT g u) t.heap) A) args s 0 0 A) D A (rT g σ) 17 1 [(0, .ref (g.1 5000))] := by
  obtain ⟨hx, hb, hml, hown, hts, hK, hlk⟩ := id X
  intro σ h H locs ls hw hS hl
  unfold wpX5_divisor_17 at h
  refine lv_aload_n hx hb dX5_divisor_17 rfl (lv_at hl 0 rfl) ?_
  refine m_get (v := .ref (g.1 5004)) X hw qM rfl inA_X5 3 (by decide) mw_80 rfl dX5_divisor_18 ?_
  refine lv_bipush (v := (19 : Int32)) hx hb dX5_divisor_21 (by decide) ?_
  obtain ⟨hi, h⟩ := h
  refine m_iald X hw qD 0 rfl hi dX5_divisor_23 ?_
  refine lv_if_lt (tgt := 34) hx hb dX5_divisor_24 (by decide) (fun hc => ?_) (fun hc => ?_)
  · replace h := h.1 hc
    obtain ⟨n9, h⟩ := h
    exact wX5_divisor_34 hg X hr n9 _ h H locs ls hw hS (lv_sub hl [0] rfl)
  · replace h := h.2 hc
    refine lv_aload_n hx hb dX5_divisor_27 rfl (lv_at hl 0 rfl) ?_
    refine lv_bipush (v := (19 : Int32)) hx hb dX5_divisor_28 (by decide) ?_
    refine lv_iconst (v := (0 : Int32)) hx hb dX5_divisor_30 (by decide) ?_
    refine m_cVv (TT := rT g) (As := [.int (19 : Int32), .int (0 : Int32)]) (rest := []) X hl.1 hw hS (kX5_makePrimitive hg h) mw_472 fX5_makePrimitive qM rfl rfl ⟨rfl, rfl, Nat.le_of_ble_eq_true rfl, Nat.le_of_ble_eq_true rfl⟩ rfl rfl (Nat.le_of_ble_eq_true rfl) dX5_divisor_31 (fun σ14 H locs h hw hS => ?_)
    obtain ⟨n9, h⟩ := h
    exact wX5_divisor_34 hg X hr n9 _ h H locs ls hw hS (lv_sub hl [0] rfl)
def wpX5_divisor_0 (Q : RS → Prop) (σ : RS) : Prop :=
  vp_in (18 : Int32) 24 ∧ (
  ((rD σ (18 : Int32).toNatClampNeg) < 0 →
    wpX5_divisor_17 Q σ) ∧
  (¬ (rD σ (18 : Int32).toNatClampNeg) < 0 →
    wpX5_makePrimitive (18 : Int32) (0 : Int32) σ (fun (σ16 : RS) =>
      wpX5_divisor_17 Q σ16)))
set_option maxRecDepth 100000 in
set_option maxHeartbeats 4000000 in
theorem wX5_divisor_0 {p : Program} {l : Launch} {e : Env} {s : State} {m : MethodId} {args : Array Value} {below : List Frame} {meth : Method} {c : Code} {D : va_G} {A : Nat → Prop} {g : mG} (hg : inj g) (X : cx p m meth c s args cX5_divisor 1 RX5 D (tyG g)) (hr : meth.sig.returnType = none) {Q : RS → Prop} : ∀ (σ : RS), wpX5_divisor_0 Q σ → cW p l e rmX5_divisor s m args below meth c (MQ below (va_Qv Q (fun u t => wd D A (rT g u) t.heap) A) args s 0 0 A) D A (rT g σ) 0 1 [(0, .ref (g.1 5000))] := by
  obtain ⟨hx, hb, hml, hown, hts, hK, hlk⟩ := id X
  intro σ h H locs ls hw hS hl
  unfold wpX5_divisor_0 at h
  refine lv_aload_n hx hb dX5_divisor_0 rfl (lv_at hl 0 rfl) ?_
  refine m_get (v := .ref (g.1 5004)) X hw qM rfl inA_X5 3 (by decide) mw_80 rfl dX5_divisor_1 ?_
  refine lv_bipush (v := (18 : Int32)) hx hb dX5_divisor_4 (by decide) ?_
  obtain ⟨hi, h⟩ := h
  refine m_iald X hw qD 0 rfl hi dX5_divisor_6 ?_
  refine lv_if_lt (tgt := 17) hx hb dX5_divisor_7 (by decide) (fun hc => ?_) (fun hc => ?_)
  · replace h := h.1 hc
    exact wX5_divisor_17 hg X hr _ h H locs ls hw hS (lv_sub hl [0] rfl)
  · replace h := h.2 hc
    refine lv_aload_n hx hb dX5_divisor_10 rfl (lv_at hl 0 rfl) ?_
    refine lv_bipush (v := (18 : Int32)) hx hb dX5_divisor_11 (by decide) ?_
    refine lv_iconst (v := (0 : Int32)) hx hb dX5_divisor_13 (by decide) ?_
    refine m_cVv (TT := rT g) (As := [.int (18 : Int32), .int (0 : Int32)]) (rest := []) X hl.1 hw hS (kX5_makePrimitive hg h) mw_472 fX5_makePrimitive qM rfl rfl ⟨rfl, rfl, Nat.le_of_ble_eq_true rfl, Nat.le_of_ble_eq_true rfl⟩ rfl rfl (Nat.le_of_ble_eq_true rfl) dX5_divisor_14 (fun σ16 H locs h hw hS => ?_)
    exact wX5_divisor_17 hg X hr _ h H locs ls hw hS (lv_sub hl [0] rfl)
def wpX5_divisor (σ : RS) (Q : RS → Prop) : Prop := wpX5_divisor_0 Q σ
theorem kX5_divisor {l : Launch} {D : va_G} {A : Nat → Prop} {g : mG} (hg : inj g) {σ : RS} {Q : RS → Prop} (h : wpX5_divisor σ Q) : Met l yX5_divisor (Cond.code yX5_divisor cX5_divisor 1 none :: wsA) rmX5_divisor (mPc D (tyG g) A (rT g σ) [.ref (g.1 5000)]) (va_Qv Q (fun u t => wd D A (rT g u) t.heap) A) 0 0 A :=
  m_met (by decide +kernel) (Nat.le_of_ble_eq_true rfl) (fun p e s m below meth c X hr H locs ls hw hS hl => wX5_divisor_0 hg X hr σ h H locs ls hw hS (lv_sub hl [0] rfl))
theorem fX5_divisor : vfit yX5_divisor cX5_divisor 1 none 0 := ⟨mw_469, mw_470, mw_5, mw_471, by decide +kernel, by decide +kernel, by decide +kernel⟩
/-! BigPolysModel.over()Z -/
def rmX5_over : Room := { frames := 3, cells := 0, slots := 0, locals := 85 }
def wpX5_over_204 (Q : Int32 → RS → Prop) (N30 : Int32 → Int32 → RS → Prop) (i1 : Int32) (i2 : Int32) (σ : RS) : Prop :=
  ∀ a1 : Int32, a1 = i2 + (-1 : Int32) →
  N30 i1 a1 σ
set_option maxRecDepth 100000 in
set_option maxHeartbeats 4000000 in
theorem wX5_over_204 {p : Program} {l : Launch} {e : Env} {s : State} {m : MethodId} {args : Array Value} {below : List Frame} {meth : Method} {c : Code} {D : va_G} {A : Nat → Prop} {g : mG} (hg : inj g) (X : cx p m meth c s args cX5_over 6 RX5 D (tyG g)) (hr : meth.sig.returnType = (some .boolean)) {Q : Int32 → RS → Prop} {N30 : Int32 → Int32 → RS → Prop} (hN30 : ∀ (i1 : Int32) (i2 : Int32) (σ : RS), N30 i1 i2 σ → cW p l e rmX5_over s m args below meth c (MQ below (va_Qi Q (fun u t => wd D A (rT g u) t.heap) A) args s 0 0 A) D A (rT g σ) 30 6 [(0, .ref (g.1 5000)), (1, .int i1), (2, .int i2)]) : ∀ (i1 : Int32) (i2 : Int32) (σ : RS), wpX5_over_204 Q N30 i1 i2 σ → cW p l e rmX5_over s m args below meth c (MQ below (va_Qi Q (fun u t => wd D A (rT g u) t.heap) A) args s 0 0 A) D A (rT g σ) 204 6 [(0, .ref (g.1 5000)), (1, .int i1), (2, .int i2)] := by
  obtain ⟨hx, hb, hml, hown, hts, hK, hlk⟩ := id X
  intro i1 i2 σ h H locs ls hw hS hl
  unfold wpX5_over_204 at h
  obtain ⟨a1, ea1⟩ : ∃ z : Int32, z = i2 + (-1 : Int32) := ⟨_, rfl⟩
  replace h := h a1 ea1
  refine lv_iinc (v := a1) (lv' := [(2, .int a1), (0, .ref (g.1 5000)), (1, .int i1)]) hx hb dX5_over_204 hl (k := 2) rfl (by rw [ea1]; rfl) (by decide) rfl (fun ls hl => ?_)
  refine lv_goto (tgt := 30) hx hb dX5_over_207 (by decide) ?_
  exact hN30 i1 a1 _ h H locs ls hw hS (lv_sub hl [1, 2, 0] rfl)
def wbX5_over_145 (Q : Int32 → RS → Prop) (N30 : Int32 → Int32 → RS → Prop) (N145 : Int32 → Int32 → Int32 → RS → Prop) (i1 : Int32) (i2 : Int32) (i5 : Int32) (σ : RS) : Prop :=
  (i1 < i5 →
    wpX5_over_204 Q N30 i1 i2 σ) ∧
  (¬ i1 < i5 →
    wpX5_at (19 : Int32) i5 σ (fun (r2 : Int32) (σ3 : RS) =>
      wpX5_times (219 : Int32) (220 : Int32) r2 σ3 (fun (σ5 : RS) =>
        wpX5_at (20 : Int32) ((i5 + i2) - i1) σ5 (fun (r6 : Int32) (σ7 : RS) =>
          wpX5_at (20 : Int32) ((i5 + i2) - i1) σ7 (fun (r8 : Int32) (σ9 : RS) =>
            wpX5_sum r6 r8 (219 : Int32) (-1 : Int32) σ9 (fun (σ11 : RS) =>
              ∀ a12 : Int32, a12 = i5 + (1 : Int32) →
              N145 i1 i2 a12 σ11))))))
set_option maxRecDepth 100000 in
set_option maxHeartbeats 4000000 in
theorem wX5_over_145 {p : Program} {l : Launch} {e : Env} {s : State} {m : MethodId} {args : Array Value} {below : List Frame} {meth : Method} {c : Code} {D : va_G} {A : Nat → Prop} {g : mG} (hg : inj g) (X : cx p m meth c s args cX5_over 6 RX5 D (tyG g)) (hr : meth.sig.returnType = (some .boolean)) {Q : Int32 → RS → Prop} {N30 : Int32 → Int32 → RS → Prop} (hN30 : ∀ (i1 : Int32) (i2 : Int32) (σ : RS), N30 i1 i2 σ → cW p l e rmX5_over s m args below meth c (MQ below (va_Qi Q (fun u t => wd D A (rT g u) t.heap) A) args s 0 0 A) D A (rT g σ) 30 6 [(0, .ref (g.1 5000)), (1, .int i1), (2, .int i2)]) : ∀ (n : Nat) (i1 : Int32) (i2 : Int32) (i5 : Int32) (σ : RS), lq4 (wbX5_over_145 Q N30) n i1 i2 i5 σ → cW p l e rmX5_over s m args below meth c (MQ below (va_Qi Q (fun u t => wd D A (rT g u) t.heap) A) args s 0 0 A) D A (rT g σ) 145 6 [(0, .ref (g.1 5000)), (1, .int i1), (2, .int i2), (5, .int i5)] := by
  obtain ⟨hx, hb, hml, hown, hts, hK, hlk⟩ := id X
  intro n
  induction n with
  | zero =>
    intro i1 i2 i5 σ h
    exact h.elim
  | succ n hN145 =>
    intro i1 i2 i5 σ h H locs ls hw hS hl
    replace h : wbX5_over_145 Q N30 (lq4 (wbX5_over_145 Q N30) n) i1 i2 i5 σ := h
    unfold wbX5_over_145 at h
    refine lv_iload hx hb dX5_over_145 (lv_at hl 3 rfl) ?_
    refine lv_iload_n hx hb dX5_over_147 rfl (lv_at hl 1 rfl) ?_
    refine lv_icmp_gt (tgt := 204) hx hb dX5_over_148 (by decide) (fun hc => ?_) (fun hc => ?_)
    · replace h := h.1 hc
      exact wX5_over_204 hg X hr hN30 i1 i2 _ h H locs ls hw hS (lv_sub hl [0, 1, 2] rfl)
    · replace h := h.2 hc
      refine lv_aload_n hx hb dX5_over_151 rfl (lv_at hl 0 rfl) ?_
      refine lv_sipush (v := (219 : Int32)) hx hb dX5_over_152 (by decide) ?_
      refine lv_sipush (v := (220 : Int32)) hx hb dX5_over_155 (by decide) ?_
      refine lv_bipush (v := (19 : Int32)) hx hb dX5_over_158 (by decide) ?_
      refine lv_iload hx hb dX5_over_160 (lv_at hl 3 rfl) ?_
      refine m_cSi (TT := rT g) (As := [.int (19 : Int32), .int i5]) (rest := [.int (220 : Int32), .int (219 : Int32), .ref (g.1 5000)]) X hl.1 hw hS (kX5_at hg h) mw_119 fX5_at ⟨rfl, rfl, Nat.le_of_ble_eq_true rfl, Nat.le_of_ble_eq_true rfl⟩ rfl rfl (Nat.le_of_ble_eq_true rfl) dX5_over_162 (fun r2 σ3 H locs h hw hS => ?_)
      refine m_cVv (TT := rT g) (As := [.int (219 : Int32), .int (220 : Int32), .int r2]) (rest := []) X hl.1 hw hS (kX5_times hg h) mw_275 fX5_times qM rfl rfl ⟨rfl, rfl, Nat.le_of_ble_eq_true rfl, Nat.le_of_ble_eq_true rfl⟩ rfl rfl (Nat.le_of_ble_eq_true rfl) dX5_over_165 (fun σ5 H locs h hw hS => ?_)
      refine lv_aload_n hx hb dX5_over_168 rfl (lv_at hl 0 rfl) ?_
      refine lv_bipush (v := (20 : Int32)) hx hb dX5_over_169 (by decide) ?_
      refine lv_iload hx hb dX5_over_171 (lv_at hl 3 rfl) ?_
      refine lv_iload_n hx hb dX5_over_173 rfl (lv_at hl 2 rfl) ?_
      refine lv_iadd hx hb dX5_over_174 ?_
      refine lv_iload_n hx hb dX5_over_175 rfl (lv_at hl 1 rfl) ?_
      refine lv_isub hx hb dX5_over_176 ?_
      refine m_cSi (TT := rT g) (As := [.int (20 : Int32), .int ((i5 + i2) - i1)]) (rest := [.ref (g.1 5000)]) X hl.1 hw hS (kX5_at hg h) mw_119 fX5_at ⟨rfl, rfl, Nat.le_of_ble_eq_true rfl, Nat.le_of_ble_eq_true rfl⟩ rfl rfl (Nat.le_of_ble_eq_true rfl) dX5_over_177 (fun r6 σ7 H locs h hw hS => ?_)
      refine lv_bipush (v := (20 : Int32)) hx hb dX5_over_180 (by decide) ?_
      refine lv_iload hx hb dX5_over_182 (lv_at hl 3 rfl) ?_
      refine lv_iload_n hx hb dX5_over_184 rfl (lv_at hl 2 rfl) ?_
      refine lv_iadd hx hb dX5_over_185 ?_
      refine lv_iload_n hx hb dX5_over_186 rfl (lv_at hl 1 rfl) ?_
      refine lv_isub hx hb dX5_over_187 ?_
      refine m_cSi (TT := rT g) (As := [.int (20 : Int32), .int ((i5 + i2) - i1)]) (rest := [.int r6, .ref (g.1 5000)]) X hl.1 hw hS (kX5_at hg h) mw_119 fX5_at ⟨rfl, rfl, Nat.le_of_ble_eq_true rfl, Nat.le_of_ble_eq_true rfl⟩ rfl rfl (Nat.le_of_ble_eq_true rfl) dX5_over_188 (fun r8 σ9 H locs h hw hS => ?_)
      refine lv_sipush (v := (219 : Int32)) hx hb dX5_over_191 (by decide) ?_
      refine lv_iconst (v := (-1 : Int32)) hx hb dX5_over_194 (by decide) ?_
      refine m_cVv (TT := rT g) (As := [.int r6, .int r8, .int (219 : Int32), .int (-1 : Int32)]) (rest := []) X hl.1 hw hS (kX5_sum hg h) mw_155 fX5_sum qM rfl rfl ⟨rfl, rfl, Nat.le_of_ble_eq_true rfl, Nat.le_of_ble_eq_true rfl⟩ rfl rfl (Nat.le_of_ble_eq_true rfl) dX5_over_195 (fun σ11 H locs h hw hS => ?_)
      obtain ⟨a12, ea12⟩ : ∃ z : Int32, z = i5 + (1 : Int32) := ⟨_, rfl⟩
      replace h := h a12 ea12
      refine lv_iinc (v := a12) (lv' := [(5, .int a12), (0, .ref (g.1 5000)), (1, .int i1), (2, .int i2)]) hx hb dX5_over_198 hl (k := 3) rfl (by rw [ea12]; rfl) (by decide) rfl (fun ls hl => ?_)
      refine lv_goto (tgt := 145) hx hb dX5_over_201 (by decide) ?_
      exact hN145 i1 i2 a12 _ h H locs ls hw hS (lv_sub hl [1, 2, 3, 0] rfl)
def wbX5_over_30 (Q : Int32 → RS → Prop) (N30 : Int32 → Int32 → RS → Prop) (i1 : Int32) (i2 : Int32) (σ : RS) : Prop :=
  (i2 < i1 →
    wpX5_measure (20 : Int32) σ (fun (σ14 : RS) =>
      wpX5_measure (21 : Int32) σ14 (fun (σ16 : RS) =>
        vp_in (20 : Int32) 24 ∧ (
        (0 ≤ (rD σ16 (20 : Int32).toNatClampNeg) →
          Q (0 : Int32) σ16) ∧
        (¬ 0 ≤ (rD σ16 (20 : Int32).toNatClampNeg) →
          Q (1 : Int32) σ16))))) ∧
  (¬ i2 < i1 →
    wpX5_at (20 : Int32) i2 σ (fun (r17 : Int32) (σ18 : RS) =>
      vp_in r17 227 ∧ (
      ((rG σ18 r17.toNatClampNeg) = 0 →
        wpX5_over_204 Q N30 i1 i2 σ18) ∧
      (¬ (rG σ18 r17.toNatClampNeg) = 0 →
        vp_in r17 227 ∧ (
        wpX5_at (19 : Int32) i1 σ18 (fun (r19 : Int32) (σ20 : RS) =>
          vp_in r19 227 ∧ (
          ∀ a21 : Int32, a21 = (rG σ18 r17.toNatClampNeg) * (rG σ20 r19.toNatClampNeg) →
          wpX5_copy r17 (217 : Int32) σ20 (fun (σ23 : RS) =>
            vp_in (217 : Int32) 227 ∧ (
            wpX5_at (19 : Int32) i1 (wG σ23 (217 : Int32) (1 : Int32)) (fun (r24 : Int32) (σ25 : RS) =>
              wpX5_divide (217 : Int32) r24 (220 : Int32) σ25 (fun (σ27 : RS) =>
                vp_in (217 : Int32) 227 ∧ (
                ((rS σ27 (217 : Int32).toNatClampNeg) ≤ 0 →
                  vp_in (220 : Int32) 227 ∧ (
                  wpX5_at (21 : Int32) (i2 - i1) (wG σ27 (220 : Int32) a21) (fun (r28 : Int32) (σ29 : RS) =>
                    wpX5_copy (220 : Int32) r28 σ29 (fun (σ31 : RS) =>
                      ∃ n, lq4 (wbX5_over_145 Q N30) n i1 i2 (0 : Int32) σ31)))) ∧
                (¬ (rS σ27 (217 : Int32).toNatClampNeg) ≤ 0 →
                  Q (0 : Int32) σ27)))))))))))))
set_option maxRecDepth 100000 in
set_option maxHeartbeats 4000000 in
theorem wX5_over_30 {p : Program} {l : Launch} {e : Env} {s : State} {m : MethodId} {args : Array Value} {below : List Frame} {meth : Method} {c : Code} {D : va_G} {A : Nat → Prop} {g : mG} (hg : inj g) (X : cx p m meth c s args cX5_over 6 RX5 D (tyG g)) (hr : meth.sig.returnType = (some .boolean)) {Q : Int32 → RS → Prop} : ∀ (n : Nat) (i1 : Int32) (i2 : Int32) (σ : RS), lq3 (wbX5_over_30 Q) n i1 i2 σ → cW p l e rmX5_over s m args below meth c (MQ below (va_Qi Q (fun u t => wd D A (rT g u) t.heap) A) args s 0 0 A) D A (rT g σ) 30 6 [(0, .ref (g.1 5000)), (1, .int i1), (2, .int i2)] := by
  obtain ⟨hx, hb, hml, hown, hts, hK, hlk⟩ := id X
  intro n
  induction n with
  | zero =>
    intro i1 i2 σ h
    exact h.elim
  | succ n hN30 =>
    intro i1 i2 σ h H locs ls hw hS hl
    replace h : wbX5_over_30 Q (lq3 (wbX5_over_30 Q) n) i1 i2 σ := h
    unfold wbX5_over_30 at h
    refine lv_iload_n hx hb dX5_over_30 rfl (lv_at hl 2 rfl) ?_
    refine lv_iload_n hx hb dX5_over_31 rfl (lv_at hl 1 rfl) ?_
    refine lv_icmp_lt (tgt := 210) hx hb dX5_over_32 (by decide) (fun hc => ?_) (fun hc => ?_)
    · replace h := h.1 hc
      refine lv_aload_n hx hb dX5_over_210 rfl (lv_at hl 0 rfl) ?_
      refine lv_bipush (v := (20 : Int32)) hx hb dX5_over_211 (by decide) ?_
      refine m_cVv (TT := rT g) (As := [.int (20 : Int32)]) (rest := []) X hl.1 hw hS (kX5_measure hg h) mw_126 fX5_measure qM rfl rfl ⟨rfl, rfl, Nat.le_of_ble_eq_true rfl, Nat.le_of_ble_eq_true rfl⟩ rfl rfl (Nat.le_of_ble_eq_true rfl) dX5_over_213 (fun σ14 H locs h hw hS => ?_)
      refine lv_aload_n hx hb dX5_over_216 rfl (lv_at hl 0 rfl) ?_
      refine lv_bipush (v := (21 : Int32)) hx hb dX5_over_217 (by decide) ?_
      refine m_cVv (TT := rT g) (As := [.int (21 : Int32)]) (rest := []) X hl.1 hw hS (kX5_measure hg h) mw_126 fX5_measure qM rfl rfl ⟨rfl, rfl, Nat.le_of_ble_eq_true rfl, Nat.le_of_ble_eq_true rfl⟩ rfl rfl (Nat.le_of_ble_eq_true rfl) dX5_over_219 (fun σ16 H locs h hw hS => ?_)
      refine lv_aload_n hx hb dX5_over_222 rfl (lv_at hl 0 rfl) ?_
      refine m_get (v := .ref (g.1 5004)) X hw qM rfl inA_X5 3 (by decide) mw_80 rfl dX5_over_223 ?_
      refine lv_bipush (v := (20 : Int32)) hx hb dX5_over_226 (by decide) ?_
      obtain ⟨hi, h⟩ := h
      refine m_iald X hw qD 0 rfl hi dX5_over_228 ?_
      refine lv_if_ge (tgt := 236) hx hb dX5_over_229 (by decide) (fun hc => ?_) (fun hc => ?_)
      · replace h := h.1 hc
        refine lv_iconst (v := (0 : Int32)) hx hb dX5_over_236 (by decide) ?_
        exact m_zret X hr rfl hw hS h dX5_over_237
      · replace h := h.2 hc
        refine lv_iconst (v := (1 : Int32)) hx hb dX5_over_232 (by decide) ?_
        refine lv_goto (tgt := 237) hx hb dX5_over_233 (by decide) ?_
        exact m_zret X hr rfl hw hS h dX5_over_237
    · replace h := h.2 hc
      refine lv_bipush (v := (20 : Int32)) hx hb dX5_over_35 (by decide) ?_
      refine lv_iload_n hx hb dX5_over_37 rfl (lv_at hl 2 rfl) ?_
      refine m_cSi (TT := rT g) (As := [.int (20 : Int32), .int i2]) (rest := []) X hl.1 hw hS (kX5_at hg h) mw_119 fX5_at ⟨rfl, rfl, Nat.le_of_ble_eq_true rfl, Nat.le_of_ble_eq_true rfl⟩ rfl rfl (Nat.le_of_ble_eq_true rfl) dX5_over_38 (fun r17 σ18 H locs h hw hS => ?_)
      refine lv_istore_n (lv' := [(3, .int r17), (0, .ref (g.1 5000)), (1, .int i1), (2, .int i2)]) hx hb dX5_over_41 rfl hl (by decide) rfl (fun ls hl => ?_)
      refine lv_aload_n hx hb dX5_over_42 rfl (lv_at hl 1 rfl) ?_
      refine m_get (v := .ref (g.1 5003)) X hw qM rfl inA_X5 2 (by decide) mw_79 rfl dX5_over_43 ?_
      refine lv_iload_n hx hb dX5_over_46 rfl (lv_at hl 0 rfl) ?_
      obtain ⟨hi, h⟩ := h
      refine m_iald X hw qG 0 rfl hi dX5_over_47 ?_
      refine lv_if_eq (tgt := 204) hx hb dX5_over_48 (by decide) (fun hc => ?_) (fun hc => ?_)
      · replace h := h.1 hc
        exact wX5_over_204 hg X hr hN30 i1 i2 _ h H locs ls hw hS (lv_sub hl [1, 2, 3] rfl)
      · replace h := h.2 hc
        refine lv_aload_n hx hb dX5_over_51 rfl (lv_at hl 1 rfl) ?_
        refine m_get (v := .ref (g.1 5003)) X hw qM rfl inA_X5 2 (by decide) mw_79 rfl dX5_over_52 ?_
        refine lv_iload_n hx hb dX5_over_55 rfl (lv_at hl 0 rfl) ?_
        obtain ⟨hi, h⟩ := h
        refine m_iald X hw qG 0 rfl hi dX5_over_56 ?_
        refine lv_aload_n hx hb dX5_over_57 rfl (lv_at hl 1 rfl) ?_
        refine m_get (v := .ref (g.1 5003)) X hw qM rfl inA_X5 2 (by decide) mw_79 rfl dX5_over_58 ?_
        refine lv_bipush (v := (19 : Int32)) hx hb dX5_over_61 (by decide) ?_
        refine lv_iload_n hx hb dX5_over_63 rfl (lv_at hl 2 rfl) ?_
        refine m_cSi (TT := rT g) (As := [.int (19 : Int32), .int i1]) (rest := [.ref (g.1 5003), .int (rG σ18 r17.toNatClampNeg)]) X hl.1 hw hS (kX5_at hg h) mw_119 fX5_at ⟨rfl, rfl, Nat.le_of_ble_eq_true rfl, Nat.le_of_ble_eq_true rfl⟩ rfl rfl (Nat.le_of_ble_eq_true rfl) dX5_over_64 (fun r19 σ20 H locs h hw hS => ?_)
        obtain ⟨hi, h⟩ := h
        refine m_iald X hw qG 0 rfl hi dX5_over_67 ?_
        refine lv_imul hx hb dX5_over_68 ?_
        refine lv_topi (fun a21 ea21 => ?_)
        replace h := h a21 ea21
        refine lv_istore (lv' := [(4, .int a21), (3, .int r17), (0, .ref (g.1 5000)), (1, .int i1), (2, .int i2)]) hx hb dX5_over_69 hl (by decide) rfl (fun ls hl => ?_)
        refine lv_aload_n hx hb dX5_over_71 rfl (lv_at hl 2 rfl) ?_
        refine lv_iload_n hx hb dX5_over_72 rfl (lv_at hl 1 rfl) ?_
        refine lv_sipush (v := (217 : Int32)) hx hb dX5_over_73 (by decide) ?_
        refine m_cVv (TT := rT g) (As := [.int r17, .int (217 : Int32)]) (rest := []) X hl.1 hw hS (kX5_copy hg h) mw_159 fX5_copy qM rfl rfl ⟨rfl, rfl, Nat.le_of_ble_eq_true rfl, Nat.le_of_ble_eq_true rfl⟩ rfl rfl (Nat.le_of_ble_eq_true rfl) dX5_over_76 (fun σ23 H locs h hw hS => ?_)
        refine lv_aload_n hx hb dX5_over_79 rfl (lv_at hl 2 rfl) ?_
        refine m_get (v := .ref (g.1 5003)) X hw qM rfl inA_X5 2 (by decide) mw_79 rfl dX5_over_80 ?_
        refine lv_sipush (v := (217 : Int32)) hx hb dX5_over_83 (by decide) ?_
        refine lv_iconst (v := (1 : Int32)) hx hb dX5_over_86 (by decide) ?_
        obtain ⟨hi, h⟩ := h
        refine m_iast (T' := rT g (wG σ23 (217 : Int32) (1 : Int32))) X hw hS qG 0 rfl hi (vG hg) dX5_over_87 (fun H locs hw hS => ?_)
        refine lv_aload_n hx hb dX5_over_88 rfl (lv_at hl 2 rfl) ?_
        refine lv_sipush (v := (217 : Int32)) hx hb dX5_over_89 (by decide) ?_
        refine lv_bipush (v := (19 : Int32)) hx hb dX5_over_92 (by decide) ?_
        refine lv_iload_n hx hb dX5_over_94 rfl (lv_at hl 3 rfl) ?_
        refine m_cSi (TT := rT g) (As := [.int (19 : Int32), .int i1]) (rest := [.int (217 : Int32), .ref (g.1 5000)]) X hl.1 hw hS (kX5_at hg h) mw_119 fX5_at ⟨rfl, rfl, Nat.le_of_ble_eq_true rfl, Nat.le_of_ble_eq_true rfl⟩ rfl rfl (Nat.le_of_ble_eq_true rfl) dX5_over_95 (fun r24 σ25 H locs h hw hS => ?_)
        refine lv_sipush (v := (220 : Int32)) hx hb dX5_over_98 (by decide) ?_
        refine m_cVv (TT := rT g) (As := [.int (217 : Int32), .int r24, .int (220 : Int32)]) (rest := []) X hl.1 hw hS (kX5_divide hg h) mw_391 fX5_divide qM rfl rfl ⟨rfl, rfl, Nat.le_of_ble_eq_true rfl, Nat.le_of_ble_eq_true rfl⟩ rfl rfl (Nat.le_of_ble_eq_true rfl) dX5_over_101 (fun σ27 H locs h hw hS => ?_)
        refine lv_aload_n hx hb dX5_over_104 rfl (lv_at hl 2 rfl) ?_
        refine m_get (v := .ref (g.1 5002)) X hw qM rfl inA_X5 1 (by decide) mw_78 rfl dX5_over_105 ?_
        refine lv_sipush (v := (217 : Int32)) hx hb dX5_over_108 (by decide) ?_
        obtain ⟨hi, h⟩ := h
        refine m_iald X hw qS 0 rfl hi dX5_over_111 ?_
        refine lv_if_le (tgt := 117) hx hb dX5_over_112 (by decide) (fun hc => ?_) (fun hc => ?_)
        · replace h := h.1 hc
          refine lv_aload_n hx hb dX5_over_117 rfl (lv_at hl 2 rfl) ?_
          refine m_get (v := .ref (g.1 5003)) X hw qM rfl inA_X5 2 (by decide) mw_79 rfl dX5_over_118 ?_
          refine lv_sipush (v := (220 : Int32)) hx hb dX5_over_121 (by decide) ?_
          refine lv_iload hx hb dX5_over_124 (lv_at hl 0 rfl) ?_
          obtain ⟨hi, h⟩ := h
          refine m_iast (T' := rT g (wG σ27 (220 : Int32) a21)) X hw hS qG 0 rfl hi (vG hg) dX5_over_126 (fun H locs hw hS => ?_)
          refine lv_aload_n hx hb dX5_over_127 rfl (lv_at hl 2 rfl) ?_
          refine lv_sipush (v := (220 : Int32)) hx hb dX5_over_128 (by decide) ?_
          refine lv_bipush (v := (21 : Int32)) hx hb dX5_over_131 (by decide) ?_
          refine lv_iload_n hx hb dX5_over_133 rfl (lv_at hl 4 rfl) ?_
          refine lv_iload_n hx hb dX5_over_134 rfl (lv_at hl 3 rfl) ?_
          refine lv_isub hx hb dX5_over_135 ?_
          refine m_cSi (TT := rT g) (As := [.int (21 : Int32), .int (i2 - i1)]) (rest := [.int (220 : Int32), .ref (g.1 5000)]) X hl.1 hw hS (kX5_at hg h) mw_119 fX5_at ⟨rfl, rfl, Nat.le_of_ble_eq_true rfl, Nat.le_of_ble_eq_true rfl⟩ rfl rfl (Nat.le_of_ble_eq_true rfl) dX5_over_136 (fun r28 σ29 H locs h hw hS => ?_)
          refine m_cVv (TT := rT g) (As := [.int (220 : Int32), .int r28]) (rest := []) X hl.1 hw hS (kX5_copy hg h) mw_159 fX5_copy qM rfl rfl ⟨rfl, rfl, Nat.le_of_ble_eq_true rfl, Nat.le_of_ble_eq_true rfl⟩ rfl rfl (Nat.le_of_ble_eq_true rfl) dX5_over_139 (fun σ31 H locs h hw hS => ?_)
          refine lv_iconst (v := (0 : Int32)) hx hb dX5_over_142 (by decide) ?_
          refine lv_istore (lv' := [(5, .int (0 : Int32)), (4, .int a21), (3, .int r17), (0, .ref (g.1 5000)), (1, .int i1), (2, .int i2)]) hx hb dX5_over_143 hl (by decide) rfl (fun ls hl => ?_)
          obtain ⟨n9, h⟩ := h
          exact wX5_over_145 hg X hr hN30 n9 i1 i2 (0 : Int32) _ h H locs ls hw hS (lv_sub hl [3, 4, 5, 0] rfl)
        · replace h := h.2 hc
          refine lv_iconst (v := (0 : Int32)) hx hb dX5_over_115 (by decide) ?_
          exact m_zret X hr rfl hw hS h dX5_over_116
def wpX5_over_0 (Q : Int32 → RS → Prop) (σ : RS) : Prop :=
  wpX5_clear (21 : Int32) σ (fun (σ33 : RS) =>
    wpX5_copyAll (18 : Int32) (20 : Int32) σ33 (fun (σ35 : RS) =>
      vp_in (19 : Int32) 24 ∧ (
      ∀ a36 : Int32, a36 = rD σ35 (19 : Int32).toNatClampNeg →
      vp_in (18 : Int32) 24 ∧ (
      ∀ a37 : Int32, a37 = rD σ35 (18 : Int32).toNatClampNeg →
      ∃ n, lq3 (wbX5_over_30 Q) n a36 a37 σ35))))
set_option maxRecDepth 100000 in
set_option maxHeartbeats 4000000 in
theorem wX5_over_0 {p : Program} {l : Launch} {e : Env} {s : State} {m : MethodId} {args : Array Value} {below : List Frame} {meth : Method} {c : Code} {D : va_G} {A : Nat → Prop} {g : mG} (hg : inj g) (X : cx p m meth c s args cX5_over 6 RX5 D (tyG g)) (hr : meth.sig.returnType = (some .boolean)) {Q : Int32 → RS → Prop} : ∀ (σ : RS), wpX5_over_0 Q σ → cW p l e rmX5_over s m args below meth c (MQ below (va_Qi Q (fun u t => wd D A (rT g u) t.heap) A) args s 0 0 A) D A (rT g σ) 0 6 [(0, .ref (g.1 5000))] := by
  obtain ⟨hx, hb, hml, hown, hts, hK, hlk⟩ := id X
  intro σ h H locs ls hw hS hl
  unfold wpX5_over_0 at h
  refine lv_aload_n hx hb dX5_over_0 rfl (lv_at hl 0 rfl) ?_
  refine lv_bipush (v := (21 : Int32)) hx hb dX5_over_1 (by decide) ?_
  refine m_cVv (TT := rT g) (As := [.int (21 : Int32)]) (rest := []) X hl.1 hw hS (kX5_clear hg h) mw_271 fX5_clear qM rfl rfl ⟨rfl, rfl, Nat.le_of_ble_eq_true rfl, Nat.le_of_ble_eq_true rfl⟩ rfl rfl (Nat.le_of_ble_eq_true rfl) dX5_over_3 (fun σ33 H locs h hw hS => ?_)
  refine lv_aload_n hx hb dX5_over_6 rfl (lv_at hl 0 rfl) ?_
  refine lv_bipush (v := (18 : Int32)) hx hb dX5_over_7 (by decide) ?_
  refine lv_bipush (v := (20 : Int32)) hx hb dX5_over_9 (by decide) ?_
  refine m_cVv (TT := rT g) (As := [.int (18 : Int32), .int (20 : Int32)]) (rest := []) X hl.1 hw hS (kX5_copyAll hg h) mw_239 fX5_copyAll qM rfl rfl ⟨rfl, rfl, Nat.le_of_ble_eq_true rfl, Nat.le_of_ble_eq_true rfl⟩ rfl rfl (Nat.le_of_ble_eq_true rfl) dX5_over_11 (fun σ35 H locs h hw hS => ?_)
  refine lv_aload_n hx hb dX5_over_14 rfl (lv_at hl 0 rfl) ?_
  refine m_get (v := .ref (g.1 5004)) X hw qM rfl inA_X5 3 (by decide) mw_80 rfl dX5_over_15 ?_
  refine lv_bipush (v := (19 : Int32)) hx hb dX5_over_18 (by decide) ?_
  obtain ⟨hi, h⟩ := h
  refine m_iald X hw qD 0 rfl hi dX5_over_20 ?_
  refine lv_topi (fun a36 ea36 => ?_)
  replace h := h a36 ea36
  refine lv_istore_n (lv' := [(1, .int a36), (0, .ref (g.1 5000))]) hx hb dX5_over_21 rfl hl (by decide) rfl (fun ls hl => ?_)
  refine lv_aload_n hx hb dX5_over_22 rfl (lv_at hl 1 rfl) ?_
  refine m_get (v := .ref (g.1 5004)) X hw qM rfl inA_X5 3 (by decide) mw_80 rfl dX5_over_23 ?_
  refine lv_bipush (v := (18 : Int32)) hx hb dX5_over_26 (by decide) ?_
  obtain ⟨hi, h⟩ := h
  refine m_iald X hw qD 0 rfl hi dX5_over_28 ?_
  refine lv_topi (fun a37 ea37 => ?_)
  replace h := h a37 ea37
  refine lv_istore_n (lv' := [(2, .int a37), (1, .int a36), (0, .ref (g.1 5000))]) hx hb dX5_over_29 rfl hl (by decide) rfl (fun ls hl => ?_)
  obtain ⟨n9, h⟩ := h
  exact wX5_over_30 hg X hr n9 a36 a37 _ h H locs ls hw hS (lv_sub hl [2, 1, 0] rfl)
def wpX5_over (σ : RS) (Q : Int32 → RS → Prop) : Prop := wpX5_over_0 Q σ
theorem kX5_over {l : Launch} {D : va_G} {A : Nat → Prop} {g : mG} (hg : inj g) {σ : RS} {Q : Int32 → RS → Prop} (h : wpX5_over σ Q) : Met l yX5_over (Cond.code yX5_over cX5_over 6 (some .boolean) :: wsA) rmX5_over (mPc D (tyG g) A (rT g σ) [.ref (g.1 5000)]) (va_Qi Q (fun u t => wd D A (rT g u) t.heap) A) 0 0 A :=
  m_met (by decide +kernel) (Nat.le_of_ble_eq_true rfl) (fun p e s m below meth c X hr H locs ls hw hS hl => wX5_over_0 hg X hr σ h H locs ls hw hS (lv_sub hl [0] rfl))
theorem fX5_over : vfit yX5_over cX5_over 6 (some .boolean) 0 := ⟨mw_388, mw_389, mw_5, mw_390, by decide +kernel, by decide +kernel, by decide +kernel⟩
/-! BigPolysModel.deriveTo(II)V -/
def rmX5_deriveTo : Room := { frames := 2, cells := 0, slots := 0, locals := 51 }
def wbX5_deriveTo_7 (x1 : Int32) (x2 : Int32) (Q : RS → Prop) (N7 : Int32 → RS → Prop) (i3 : Int32) (σ : RS) : Prop :=
  vp_in x1 24 ∧ (
  ((rD σ x1.toNatClampNeg) < i3 →
    wpX5_measure x2 σ (fun (σ2 : RS) =>
      Q σ2)) ∧
  (¬ (rD σ x1.toNatClampNeg) < i3 →
    wpX5_put (221 : Int32) i3.toInt64 σ (fun (σ4 : RS) =>
      wpX5_at x1 i3 σ4 (fun (r5 : Int32) (σ6 : RS) =>
        wpX5_times (219 : Int32) r5 (221 : Int32) σ6 (fun (σ8 : RS) =>
          wpX5_at x2 (i3 - (1 : Int32)) σ8 (fun (r9 : Int32) (σ10 : RS) =>
            wpX5_copy (219 : Int32) r9 σ10 (fun (σ12 : RS) =>
              ∀ a13 : Int32, a13 = i3 + (1 : Int32) →
              N7 a13 σ12)))))))
set_option maxRecDepth 100000 in
set_option maxHeartbeats 4000000 in
theorem wX5_deriveTo_7 {p : Program} {l : Launch} {e : Env} {s : State} {m : MethodId} {args : Array Value} {below : List Frame} {meth : Method} {c : Code} {D : va_G} {A : Nat → Prop} {g : mG} (hg : inj g) {x1 : Int32} {x2 : Int32} (X : cx p m meth c s args cX5_deriveTo 4 RX5 D (tyG g)) (hr : meth.sig.returnType = none) {Q : RS → Prop} : ∀ (n : Nat) (i3 : Int32) (σ : RS), lq2 (wbX5_deriveTo_7 x1 x2 Q) n i3 σ → cW p l e rmX5_deriveTo s m args below meth c (MQ below (va_Qv Q (fun u t => wd D A (rT g u) t.heap) A) args s 0 0 A) D A (rT g σ) 7 4 [(0, .ref (g.1 5000)), (1, .int x1), (2, .int x2), (3, .int i3)] := by
  obtain ⟨hx, hb, hml, hown, hts, hK, hlk⟩ := id X
  intro n
  induction n with
  | zero =>
    intro i3 σ h
    exact h.elim
  | succ n hN7 =>
    intro i3 σ h H locs ls hw hS hl
    replace h : wbX5_deriveTo_7 x1 x2 Q (lq2 (wbX5_deriveTo_7 x1 x2 Q) n) i3 σ := h
    unfold wbX5_deriveTo_7 at h
    refine lv_iload_n hx hb dX5_deriveTo_7 rfl (lv_at hl 3 rfl) ?_
    refine lv_aload_n hx hb dX5_deriveTo_8 rfl (lv_at hl 0 rfl) ?_
    refine m_get (v := .ref (g.1 5004)) X hw qM rfl inA_X5 3 (by decide) mw_80 rfl dX5_deriveTo_9 ?_
    refine lv_iload_n hx hb dX5_deriveTo_12 rfl (lv_at hl 1 rfl) ?_
    obtain ⟨hi, h⟩ := h
    refine m_iald X hw qD 0 rfl hi dX5_deriveTo_13 ?_
    refine lv_icmp_gt (tgt := 61) hx hb dX5_deriveTo_14 (by decide) (fun hc => ?_) (fun hc => ?_)
    · replace h := h.1 hc
      refine lv_aload_n hx hb dX5_deriveTo_61 rfl (lv_at hl 0 rfl) ?_
      refine lv_iload_n hx hb dX5_deriveTo_62 rfl (lv_at hl 2 rfl) ?_
      refine m_cVv (TT := rT g) (As := [.int x2]) (rest := []) X hl.1 hw hS (kX5_measure hg h) mw_126 fX5_measure qM rfl rfl ⟨rfl, rfl, Nat.le_of_ble_eq_true rfl, Nat.le_of_ble_eq_true rfl⟩ rfl rfl (Nat.le_of_ble_eq_true rfl) dX5_deriveTo_63 (fun σ2 H locs h hw hS => ?_)
      exact m_vret X hr hw hS h dX5_deriveTo_66
    · replace h := h.2 hc
      refine lv_aload_n hx hb dX5_deriveTo_17 rfl (lv_at hl 0 rfl) ?_
      refine lv_sipush (v := (221 : Int32)) hx hb dX5_deriveTo_18 (by decide) ?_
      refine lv_iload_n hx hb dX5_deriveTo_21 rfl (lv_at hl 3 rfl) ?_
      refine lv_i2l (v := i3.toInt64) hx hb dX5_deriveTo_22 rfl ?_
      refine m_cVv (TT := rT g) (As := [.int (221 : Int32), .long i3.toInt64]) (rest := []) X hl.1 hw hS (kX5_put hg h) mw_151 fX5_put qM rfl rfl ⟨rfl, rfl, Nat.le_of_ble_eq_true rfl, Nat.le_of_ble_eq_true rfl⟩ rfl rfl (Nat.le_of_ble_eq_true rfl) dX5_deriveTo_23 (fun σ4 H locs h hw hS => ?_)
      refine lv_aload_n hx hb dX5_deriveTo_26 rfl (lv_at hl 0 rfl) ?_
      refine lv_sipush (v := (219 : Int32)) hx hb dX5_deriveTo_27 (by decide) ?_
      refine lv_iload_n hx hb dX5_deriveTo_30 rfl (lv_at hl 1 rfl) ?_
      refine lv_iload_n hx hb dX5_deriveTo_31 rfl (lv_at hl 3 rfl) ?_
      refine m_cSi (TT := rT g) (As := [.int x1, .int i3]) (rest := [.int (219 : Int32), .ref (g.1 5000)]) X hl.1 hw hS (kX5_at hg h) mw_119 fX5_at ⟨rfl, rfl, Nat.le_of_ble_eq_true rfl, Nat.le_of_ble_eq_true rfl⟩ rfl rfl (Nat.le_of_ble_eq_true rfl) dX5_deriveTo_32 (fun r5 σ6 H locs h hw hS => ?_)
      refine lv_sipush (v := (221 : Int32)) hx hb dX5_deriveTo_35 (by decide) ?_
      refine m_cVv (TT := rT g) (As := [.int (219 : Int32), .int r5, .int (221 : Int32)]) (rest := []) X hl.1 hw hS (kX5_times hg h) mw_275 fX5_times qM rfl rfl ⟨rfl, rfl, Nat.le_of_ble_eq_true rfl, Nat.le_of_ble_eq_true rfl⟩ rfl rfl (Nat.le_of_ble_eq_true rfl) dX5_deriveTo_38 (fun σ8 H locs h hw hS => ?_)
      refine lv_aload_n hx hb dX5_deriveTo_41 rfl (lv_at hl 0 rfl) ?_
      refine lv_sipush (v := (219 : Int32)) hx hb dX5_deriveTo_42 (by decide) ?_
      refine lv_iload_n hx hb dX5_deriveTo_45 rfl (lv_at hl 2 rfl) ?_
      refine lv_iload_n hx hb dX5_deriveTo_46 rfl (lv_at hl 3 rfl) ?_
      refine lv_iconst (v := (1 : Int32)) hx hb dX5_deriveTo_47 (by decide) ?_
      refine lv_isub hx hb dX5_deriveTo_48 ?_
      refine m_cSi (TT := rT g) (As := [.int x2, .int (i3 - (1 : Int32))]) (rest := [.int (219 : Int32), .ref (g.1 5000)]) X hl.1 hw hS (kX5_at hg h) mw_119 fX5_at ⟨rfl, rfl, Nat.le_of_ble_eq_true rfl, Nat.le_of_ble_eq_true rfl⟩ rfl rfl (Nat.le_of_ble_eq_true rfl) dX5_deriveTo_49 (fun r9 σ10 H locs h hw hS => ?_)
      refine m_cVv (TT := rT g) (As := [.int (219 : Int32), .int r9]) (rest := []) X hl.1 hw hS (kX5_copy hg h) mw_159 fX5_copy qM rfl rfl ⟨rfl, rfl, Nat.le_of_ble_eq_true rfl, Nat.le_of_ble_eq_true rfl⟩ rfl rfl (Nat.le_of_ble_eq_true rfl) dX5_deriveTo_52 (fun σ12 H locs h hw hS => ?_)
      obtain ⟨a13, ea13⟩ : ∃ z : Int32, z = i3 + (1 : Int32) := ⟨_, rfl⟩
      replace h := h a13 ea13
      refine lv_iinc (v := a13) (lv' := [(3, .int a13), (0, .ref (g.1 5000)), (1, .int x1), (2, .int x2)]) hx hb dX5_deriveTo_55 hl (k := 3) rfl (by rw [ea13]; rfl) (by decide) rfl (fun ls hl => ?_)
      refine lv_goto (tgt := 7) hx hb dX5_deriveTo_58 (by decide) ?_
      exact hN7 a13 _ h H locs ls hw hS (lv_sub hl [1, 2, 3, 0] rfl)
def wpX5_deriveTo_0 (x1 : Int32) (x2 : Int32) (Q : RS → Prop) (σ : RS) : Prop :=
  wpX5_clear x2 σ (fun (σ15 : RS) =>
    ∃ n, lq2 (wbX5_deriveTo_7 x1 x2 Q) n (1 : Int32) σ15)
set_option maxRecDepth 100000 in
set_option maxHeartbeats 4000000 in
theorem wX5_deriveTo_0 {p : Program} {l : Launch} {e : Env} {s : State} {m : MethodId} {args : Array Value} {below : List Frame} {meth : Method} {c : Code} {D : va_G} {A : Nat → Prop} {g : mG} (hg : inj g) {x1 : Int32} {x2 : Int32} (X : cx p m meth c s args cX5_deriveTo 4 RX5 D (tyG g)) (hr : meth.sig.returnType = none) {Q : RS → Prop} : ∀ (σ : RS), wpX5_deriveTo_0 x1 x2 Q σ → cW p l e rmX5_deriveTo s m args below meth c (MQ below (va_Qv Q (fun u t => wd D A (rT g u) t.heap) A) args s 0 0 A) D A (rT g σ) 0 4 [(0, .ref (g.1 5000)), (1, .int x1), (2, .int x2)] := by
  obtain ⟨hx, hb, hml, hown, hts, hK, hlk⟩ := id X
  intro σ h H locs ls hw hS hl
  unfold wpX5_deriveTo_0 at h
  refine lv_aload_n hx hb dX5_deriveTo_0 rfl (lv_at hl 0 rfl) ?_
  refine lv_iload_n hx hb dX5_deriveTo_1 rfl (lv_at hl 2 rfl) ?_
  refine m_cVv (TT := rT g) (As := [.int x2]) (rest := []) X hl.1 hw hS (kX5_clear hg h) mw_271 fX5_clear qM rfl rfl ⟨rfl, rfl, Nat.le_of_ble_eq_true rfl, Nat.le_of_ble_eq_true rfl⟩ rfl rfl (Nat.le_of_ble_eq_true rfl) dX5_deriveTo_2 (fun σ15 H locs h hw hS => ?_)
  refine lv_iconst (v := (1 : Int32)) hx hb dX5_deriveTo_5 (by decide) ?_
  refine lv_istore_n (lv' := [(3, .int (1 : Int32)), (0, .ref (g.1 5000)), (1, .int x1), (2, .int x2)]) hx hb dX5_deriveTo_6 rfl hl (by decide) rfl (fun ls hl => ?_)
  obtain ⟨n9, h⟩ := h
  exact wX5_deriveTo_7 hg X hr n9 (1 : Int32) _ h H locs ls hw hS (lv_sub hl [1, 2, 3, 0] rfl)
def wpX5_deriveTo (x1 : Int32) (x2 : Int32) (σ : RS) (Q : RS → Prop) : Prop := wpX5_deriveTo_0 x1 x2 Q σ
theorem kX5_deriveTo {l : Launch} {D : va_G} {A : Nat → Prop} {g : mG} (hg : inj g) {x1 : Int32} {x2 : Int32} {σ : RS} {Q : RS → Prop} (h : wpX5_deriveTo x1 x2 σ Q) : Met l yX5_deriveTo (Cond.code yX5_deriveTo cX5_deriveTo 4 none :: wsA) rmX5_deriveTo (mPc D (tyG g) A (rT g σ) [.ref (g.1 5000), .int x1, .int x2]) (va_Qv Q (fun u t => wd D A (rT g u) t.heap) A) 0 0 A :=
  m_met (by decide +kernel) (Nat.le_of_ble_eq_true rfl) (fun p e s m below meth c X hr H locs ls hw hS hl => wX5_deriveTo_0 hg X hr σ h H locs ls hw hS (lv_sub hl [0, 1, 2] rfl))
theorem fX5_deriveTo : vfit yX5_deriveTo cX5_deriveTo 4 none 2 := ⟨mw_297, mw_298, mw_5, mw_299, by decide +kernel, by decide +kernel, by decide +kernel⟩
/-! BigPolysModel.onceOf(I)V -/
def rmX5_onceOf : Room := { frames := 6, cells := 0, slots := 0, locals := 157 }
def wpX5_onceOf_0 (x1 : Int32) (Q : RS → Prop) (σ : RS) : Prop :=
  wpX5_copyAll x1 (18 : Int32) σ (fun (σ2 : RS) =>
    wpX5_deriveTo (18 : Int32) (19 : Int32) σ2 (fun (σ4 : RS) =>
      wpX5_divisor σ4 (fun (σ6 : RS) =>
        wpX5_copyAll (18 : Int32) (22 : Int32) σ6 (fun (σ8 : RS) =>
          wpX5_copyAll x1 (18 : Int32) σ8 (fun (σ10 : RS) =>
            wpX5_makePrimitive (18 : Int32) (0 : Int32) σ10 (fun (σ12 : RS) =>
              wpX5_copyAll (22 : Int32) (19 : Int32) σ12 (fun (σ14 : RS) =>
                wpX5_over σ14 (fun (r15 : Int32) (σ16 : RS) =>
                  Q σ16))))))))
set_option maxRecDepth 100000 in
set_option maxHeartbeats 4000000 in
theorem wX5_onceOf_0 {p : Program} {l : Launch} {e : Env} {s : State} {m : MethodId} {args : Array Value} {below : List Frame} {meth : Method} {c : Code} {D : va_G} {A : Nat → Prop} {g : mG} (hg : inj g) {x1 : Int32} (X : cx p m meth c s args cX5_onceOf 2 RX5 D (tyG g)) (hr : meth.sig.returnType = none) {Q : RS → Prop} : ∀ (σ : RS), wpX5_onceOf_0 x1 Q σ → cW p l e rmX5_onceOf s m args below meth c (MQ below (va_Qv Q (fun u t => wd D A (rT g u) t.heap) A) args s 0 0 A) D A (rT g σ) 0 2 [(0, .ref (g.1 5000)), (1, .int x1)] := by
  obtain ⟨hx, hb, hml, hown, hts, hK, hlk⟩ := id X
  intro σ h H locs ls hw hS hl
  unfold wpX5_onceOf_0 at h
  refine lv_aload_n hx hb dX5_onceOf_0 rfl (lv_at hl 0 rfl) ?_
  refine lv_iload_n hx hb dX5_onceOf_1 rfl (lv_at hl 1 rfl) ?_
  refine lv_bipush (v := (18 : Int32)) hx hb dX5_onceOf_2 (by decide) ?_
  refine m_cVv (TT := rT g) (As := [.int x1, .int (18 : Int32)]) (rest := []) X hl.1 hw hS (kX5_copyAll hg h) mw_239 fX5_copyAll qM rfl rfl ⟨rfl, rfl, Nat.le_of_ble_eq_true rfl, Nat.le_of_ble_eq_true rfl⟩ rfl rfl (Nat.le_of_ble_eq_true rfl) dX5_onceOf_4 (fun σ2 H locs h hw hS => ?_)
  refine lv_aload_n hx hb dX5_onceOf_7 rfl (lv_at hl 0 rfl) ?_
  refine lv_bipush (v := (18 : Int32)) hx hb dX5_onceOf_8 (by decide) ?_
  refine lv_bipush (v := (19 : Int32)) hx hb dX5_onceOf_10 (by decide) ?_
  refine m_cVv (TT := rT g) (As := [.int (18 : Int32), .int (19 : Int32)]) (rest := []) X hl.1 hw hS (kX5_deriveTo hg h) mw_296 fX5_deriveTo qM rfl rfl ⟨rfl, rfl, Nat.le_of_ble_eq_true rfl, Nat.le_of_ble_eq_true rfl⟩ rfl rfl (Nat.le_of_ble_eq_true rfl) dX5_onceOf_12 (fun σ4 H locs h hw hS => ?_)
  refine lv_aload_n hx hb dX5_onceOf_15 rfl (lv_at hl 0 rfl) ?_
  refine m_cVv (TT := rT g) (As := []) (rest := []) X hl.1 hw hS (kX5_divisor hg h) mw_468 fX5_divisor qM rfl rfl ⟨rfl, rfl, Nat.le_of_ble_eq_true rfl, Nat.le_of_ble_eq_true rfl⟩ rfl rfl (Nat.le_of_ble_eq_true rfl) dX5_onceOf_16 (fun σ6 H locs h hw hS => ?_)
  refine lv_aload_n hx hb dX5_onceOf_19 rfl (lv_at hl 0 rfl) ?_
  refine lv_bipush (v := (18 : Int32)) hx hb dX5_onceOf_20 (by decide) ?_
  refine lv_bipush (v := (22 : Int32)) hx hb dX5_onceOf_22 (by decide) ?_
  refine m_cVv (TT := rT g) (As := [.int (18 : Int32), .int (22 : Int32)]) (rest := []) X hl.1 hw hS (kX5_copyAll hg h) mw_239 fX5_copyAll qM rfl rfl ⟨rfl, rfl, Nat.le_of_ble_eq_true rfl, Nat.le_of_ble_eq_true rfl⟩ rfl rfl (Nat.le_of_ble_eq_true rfl) dX5_onceOf_24 (fun σ8 H locs h hw hS => ?_)
  refine lv_aload_n hx hb dX5_onceOf_27 rfl (lv_at hl 0 rfl) ?_
  refine lv_iload_n hx hb dX5_onceOf_28 rfl (lv_at hl 1 rfl) ?_
  refine lv_bipush (v := (18 : Int32)) hx hb dX5_onceOf_29 (by decide) ?_
  refine m_cVv (TT := rT g) (As := [.int x1, .int (18 : Int32)]) (rest := []) X hl.1 hw hS (kX5_copyAll hg h) mw_239 fX5_copyAll qM rfl rfl ⟨rfl, rfl, Nat.le_of_ble_eq_true rfl, Nat.le_of_ble_eq_true rfl⟩ rfl rfl (Nat.le_of_ble_eq_true rfl) dX5_onceOf_31 (fun σ10 H locs h hw hS => ?_)
  refine lv_aload_n hx hb dX5_onceOf_34 rfl (lv_at hl 0 rfl) ?_
  refine lv_bipush (v := (18 : Int32)) hx hb dX5_onceOf_35 (by decide) ?_
  refine lv_iconst (v := (0 : Int32)) hx hb dX5_onceOf_37 (by decide) ?_
  refine m_cVv (TT := rT g) (As := [.int (18 : Int32), .int (0 : Int32)]) (rest := []) X hl.1 hw hS (kX5_makePrimitive hg h) mw_472 fX5_makePrimitive qM rfl rfl ⟨rfl, rfl, Nat.le_of_ble_eq_true rfl, Nat.le_of_ble_eq_true rfl⟩ rfl rfl (Nat.le_of_ble_eq_true rfl) dX5_onceOf_38 (fun σ12 H locs h hw hS => ?_)
  refine lv_aload_n hx hb dX5_onceOf_41 rfl (lv_at hl 0 rfl) ?_
  refine lv_bipush (v := (22 : Int32)) hx hb dX5_onceOf_42 (by decide) ?_
  refine lv_bipush (v := (19 : Int32)) hx hb dX5_onceOf_44 (by decide) ?_
  refine m_cVv (TT := rT g) (As := [.int (22 : Int32), .int (19 : Int32)]) (rest := []) X hl.1 hw hS (kX5_copyAll hg h) mw_239 fX5_copyAll qM rfl rfl ⟨rfl, rfl, Nat.le_of_ble_eq_true rfl, Nat.le_of_ble_eq_true rfl⟩ rfl rfl (Nat.le_of_ble_eq_true rfl) dX5_onceOf_46 (fun σ14 H locs h hw hS => ?_)
  refine lv_aload_n hx hb dX5_onceOf_49 rfl (lv_at hl 0 rfl) ?_
  refine m_cVi (TT := rT g) (As := []) (rest := []) X hl.1 hw hS (kX5_over hg h) mw_387 fX5_over qM rfl rfl ⟨rfl, rfl, Nat.le_of_ble_eq_true rfl, Nat.le_of_ble_eq_true rfl⟩ rfl rfl (Nat.le_of_ble_eq_true rfl) dX5_onceOf_50 (fun r15 σ16 H locs h hw hS => ?_)
  refine lv_pop hx hb dX5_onceOf_53 rfl ?_
  exact m_vret X hr hw hS h dX5_onceOf_54
def wpX5_onceOf (x1 : Int32) (σ : RS) (Q : RS → Prop) : Prop := wpX5_onceOf_0 x1 Q σ
theorem kX5_onceOf {l : Launch} {D : va_G} {A : Nat → Prop} {g : mG} (hg : inj g) {x1 : Int32} {σ : RS} {Q : RS → Prop} (h : wpX5_onceOf x1 σ Q) : Met l yX5_onceOf (Cond.code yX5_onceOf cX5_onceOf 2 none :: wsA) rmX5_onceOf (mPc D (tyG g) A (rT g σ) [.ref (g.1 5000), .int x1]) (va_Qv Q (fun u t => wd D A (rT g u) t.heap) A) 0 0 A :=
  m_met (by decide +kernel) (Nat.le_of_ble_eq_true rfl) (fun p e s m below meth c X hr H locs ls hw hS hl => wX5_onceOf_0 hg X hr σ h H locs ls hw hS (lv_sub hl [0, 1] rfl))
theorem fX5_onceOf : vfit yX5_onceOf cX5_onceOf 2 none 1 := ⟨mw_499, mw_500, mw_5, mw_501, by decide +kernel, by decide +kernel, by decide +kernel⟩
