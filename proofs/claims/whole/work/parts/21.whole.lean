/-! BigPolys$Whole.trim()V -/
def rmX3_trim : Room := { frames := 0, cells := 0, slots := 0, locals := 0 }
def wpX3_trim_34 (w0 : Nat) (Q : CS → Prop) (σ : CS) : Prop :=
  (¬ (cS σ w0) = 0 →
    Q σ) ∧
  ((cS σ w0) = 0 →
    Q (sG σ w0 (0 : Int32)))
set_option maxRecDepth 100000 in
set_option maxHeartbeats 4000000 in
theorem wX3_trim_34 {p : Program} {l : Launch} {e : Env} {s : State} {m : MethodId} {args : Array Value} {below : List Frame} {meth : Method} {c : Code} {D : va_G} {A : Nat → Prop} {g : mG} (hg : inj g) {w0 : Nat} (hw0 : okW w0) (X : cx p m meth c s args cX3_trim 1 RX3 D (tyG g)) (hr : meth.sig.returnType = none) {Q : CS → Prop} : ∀ (σ : CS), wpX3_trim_34 w0 Q σ → cW p l e rmX3_trim s m args below meth c (MQ below (va_Qv Q (fun u t => wd D A (cT g u) t.heap) A) args s 0 0 A) D A (cT g σ) 34 1 [(0, .ref (g.1 (4 * w0)))] := by
  obtain ⟨hx, hb, hml, hown, hts, hK, hlk⟩ := id X
  intro σ h H locs ls hw hS hl
  unfold wpX3_trim_34 at h
  refine lv_aload_n hx hb dX3_trim_34 rfl (lv_at hl 0 rfl) ?_
  refine m_get (v := .int (cS σ w0)) X hw (tW hw0) rfl inA_X3 1 (by decide) mw_100 rfl dX3_trim_35 ?_
  refine lv_if_ne (tgt := 46) hx hb dX3_trim_38 (by decide) (fun hc => ?_) (fun hc => ?_)
  · replace h := h.1 hc
    exact m_vret X hr hw hS h dX3_trim_46
  · replace h := h.2 hc
    refine lv_aload_n hx hb dX3_trim_41 rfl (lv_at hl 0 rfl) ?_
    refine lv_iconst (v := (0 : Int32)) hx hb dX3_trim_42 (by decide) ?_
    refine m_put (T' := cT g (sG σ w0 (0 : Int32))) X hw hS (tW hw0) rfl inA_X3 tyX3 tyX3_ok nmX3 2 (by decide) mw_101 rfl pd_I (Nat.le_of_ble_eq_true rfl) (uG hg) dX3_trim_43 (fun H locs hw hS => ?_)
    exact m_vret X hr hw hS h dX3_trim_46
def wbX3_trim_0 (w0 : Nat) (Q : CS → Prop) (N0 : CS → Prop) (σ : CS) : Prop :=
  ((cS σ w0) ≤ 0 →
    wpX3_trim_34 w0 Q σ) ∧
  (¬ (cS σ w0) ≤ 0 →
    vp_in ((cS σ w0) - (1 : Int32)) (capW w0) ∧ (
    (¬ (cF σ w0 ((cS σ w0) - (1 : Int32)).toNatClampNeg) = 0 →
      wpX3_trim_34 w0 Q σ) ∧
    ((cF σ w0 ((cS σ w0) - (1 : Int32)).toNatClampNeg) = 0 →
      N0 (sS σ w0 ((cS σ w0) - (1 : Int32))))))
set_option maxRecDepth 100000 in
set_option maxHeartbeats 4000000 in
theorem wX3_trim_0 {p : Program} {l : Launch} {e : Env} {s : State} {m : MethodId} {args : Array Value} {below : List Frame} {meth : Method} {c : Code} {D : va_G} {A : Nat → Prop} {g : mG} (hg : inj g) {w0 : Nat} (hw0 : okW w0) (X : cx p m meth c s args cX3_trim 1 RX3 D (tyG g)) (hr : meth.sig.returnType = none) {Q : CS → Prop} : ∀ (n : Nat) (σ : CS), lq1 (wbX3_trim_0 w0 Q) n σ → cW p l e rmX3_trim s m args below meth c (MQ below (va_Qv Q (fun u t => wd D A (cT g u) t.heap) A) args s 0 0 A) D A (cT g σ) 0 1 [(0, .ref (g.1 (4 * w0)))] := by
  obtain ⟨hx, hb, hml, hown, hts, hK, hlk⟩ := id X
  intro n
  induction n with
  | zero =>
    intro σ h
    exact h.elim
  | succ n hN0 =>
    intro σ h H locs ls hw hS hl
    replace h : wbX3_trim_0 w0 Q (lq1 (wbX3_trim_0 w0 Q) n) σ := h
    unfold wbX3_trim_0 at h
    refine lv_aload_n hx hb dX3_trim_0 rfl (lv_at hl 0 rfl) ?_
    refine m_get (v := .int (cS σ w0)) X hw (tW hw0) rfl inA_X3 1 (by decide) mw_100 rfl dX3_trim_1 ?_
    refine lv_if_le (tgt := 34) hx hb dX3_trim_4 (by decide) (fun hc => ?_) (fun hc => ?_)
    · replace h := h.1 hc
      exact wX3_trim_34 hg hw0 X hr _ h H locs ls hw hS (lv_sub hl [0] rfl)
    · replace h := h.2 hc
      refine lv_aload_n hx hb dX3_trim_7 rfl (lv_at hl 0 rfl) ?_
      refine m_get (v := .ref (g.1 (4 * w0 + 1))) X hw (tW hw0) rfl inA_X3 0 (by decide) mw_36 rfl dX3_trim_8 ?_
      refine lv_aload_n hx hb dX3_trim_11 rfl (lv_at hl 0 rfl) ?_
      refine m_get (v := .int (cS σ w0)) X hw (tW hw0) rfl inA_X3 1 (by decide) mw_100 rfl dX3_trim_12 ?_
      refine lv_iconst (v := (1 : Int32)) hx hb dX3_trim_15 (by decide) ?_
      refine lv_isub hx hb dX3_trim_16 ?_
      obtain ⟨hi, h⟩ := h
      refine m_iald X hw (tD hw0) 0 rfl hi dX3_trim_17 ?_
      refine lv_if_ne (tgt := 34) hx hb dX3_trim_18 (by decide) (fun hc => ?_) (fun hc => ?_)
      · replace h := h.1 hc
        exact wX3_trim_34 hg hw0 X hr _ h H locs ls hw hS (lv_sub hl [0] rfl)
      · replace h := h.2 hc
        refine lv_aload_n hx hb dX3_trim_21 rfl (lv_at hl 0 rfl) ?_
        refine lv_dup hx hb dX3_trim_22 rfl ?_
        refine m_get (v := .int (cS σ w0)) X hw (tW hw0) rfl inA_X3 1 (by decide) mw_100 rfl dX3_trim_23 ?_
        refine lv_iconst (v := (1 : Int32)) hx hb dX3_trim_26 (by decide) ?_
        refine lv_isub hx hb dX3_trim_27 ?_
        refine m_put (T' := cT g (sS σ w0 ((cS σ w0) - (1 : Int32)))) X hw hS (tW hw0) rfl inA_X3 tyX3 tyX3_ok nmX3 1 (by decide) mw_100 rfl pd_I (Nat.le_of_ble_eq_true rfl) (uS hg) dX3_trim_28 (fun H locs hw hS => ?_)
        refine lv_goto (tgt := 0) hx hb dX3_trim_31 (by decide) ?_
        exact hN0 _ h H locs ls hw hS (lv_sub hl [0] rfl)
def wpX3_trim (w0 : Nat) (σ : CS) (Q : CS → Prop) : Prop := ∃ n, lq1 (wbX3_trim_0 w0 Q) n σ
theorem kX3_trim {l : Launch} {D : va_G} {A : Nat → Prop} {g : mG} (hg : inj g) {w0 : Nat} (hw0 : okW w0) {σ : CS} {Q : CS → Prop} (h : wpX3_trim w0 σ Q) : Met l yX3_trim (Cond.code yX3_trim cX3_trim 1 none :: wsA) rmX3_trim (mPc D (tyG g) A (cT g σ) [.ref (g.1 (4 * w0))]) (va_Qv Q (fun u t => wd D A (cT g u) t.heap) A) 0 0 A :=
  m_met (by decide +kernel) (Nat.le_of_ble_eq_true rfl) (fun p e s m below meth c X hr => h.elim (fun n h H locs ls hw hS hl => wX3_trim_0 hg hw0 X hr n σ h H locs ls hw hS (lv_sub hl [0] rfl)))
theorem fX3_trim : vfit yX3_trim cX3_trim 1 none 0 := ⟨mw_192, mw_193, mw_29, mw_194, by decide +kernel, by decide +kernel, by decide +kernel⟩
/-! BigPolys$Whole.clear()V -/
def rmX3_clear : Room := { frames := 0, cells := 0, slots := 0, locals := 0 }
def wpX3_clear_0 (w0 : Nat) (Q : CS → Prop) (σ : CS) : Prop :=
  Q (sG (sS σ w0 (0 : Int32)) w0 (0 : Int32))
set_option maxRecDepth 100000 in
set_option maxHeartbeats 4000000 in
theorem wX3_clear_0 {p : Program} {l : Launch} {e : Env} {s : State} {m : MethodId} {args : Array Value} {below : List Frame} {meth : Method} {c : Code} {D : va_G} {A : Nat → Prop} {g : mG} (hg : inj g) {w0 : Nat} (hw0 : okW w0) (X : cx p m meth c s args cX3_clear 1 RX3 D (tyG g)) (hr : meth.sig.returnType = none) {Q : CS → Prop} : ∀ (σ : CS), wpX3_clear_0 w0 Q σ → cW p l e rmX3_clear s m args below meth c (MQ below (va_Qv Q (fun u t => wd D A (cT g u) t.heap) A) args s 0 0 A) D A (cT g σ) 0 1 [(0, .ref (g.1 (4 * w0)))] := by
  obtain ⟨hx, hb, hml, hown, hts, hK, hlk⟩ := id X
  intro σ h H locs ls hw hS hl
  unfold wpX3_clear_0 at h
  refine lv_aload_n hx hb dX3_clear_0 rfl (lv_at hl 0 rfl) ?_
  refine lv_iconst (v := (0 : Int32)) hx hb dX3_clear_1 (by decide) ?_
  refine m_put (T' := cT g (sS σ w0 (0 : Int32))) X hw hS (tW hw0) rfl inA_X3 tyX3 tyX3_ok nmX3 1 (by decide) mw_100 rfl pd_I (Nat.le_of_ble_eq_true rfl) (uS hg) dX3_clear_2 (fun H locs hw hS => ?_)
  refine lv_aload_n hx hb dX3_clear_5 rfl (lv_at hl 0 rfl) ?_
  refine lv_iconst (v := (0 : Int32)) hx hb dX3_clear_6 (by decide) ?_
  refine m_put (T' := cT g (sG (sS σ w0 (0 : Int32)) w0 (0 : Int32))) X hw hS (tW hw0) rfl inA_X3 tyX3 tyX3_ok nmX3 2 (by decide) mw_101 rfl pd_I (Nat.le_of_ble_eq_true rfl) (uG hg) dX3_clear_7 (fun H locs hw hS => ?_)
  exact m_vret X hr hw hS h dX3_clear_10
def wpX3_clear (w0 : Nat) (σ : CS) (Q : CS → Prop) : Prop := wpX3_clear_0 w0 Q σ
theorem kX3_clear {l : Launch} {D : va_G} {A : Nat → Prop} {g : mG} (hg : inj g) {w0 : Nat} (hw0 : okW w0) {σ : CS} {Q : CS → Prop} (h : wpX3_clear w0 σ Q) : Met l yX3_clear (Cond.code yX3_clear cX3_clear 1 none :: wsA) rmX3_clear (mPc D (tyG g) A (cT g σ) [.ref (g.1 (4 * w0))]) (va_Qv Q (fun u t => wd D A (cT g u) t.heap) A) 0 0 A :=
  m_met (by decide +kernel) (Nat.le_of_ble_eq_true rfl) (fun p e s m below meth c X hr H locs ls hw hS hl => wX3_clear_0 hg hw0 X hr σ h H locs ls hw hS (lv_sub hl [0] rfl))
theorem fX3_clear : vfit yX3_clear cX3_clear 1 none 0 := ⟨mw_97, mw_98, mw_29, mw_99, by decide +kernel, by decide +kernel, by decide +kernel⟩
/-! BigPolys$Whole.put(III)V -/
def rmX3_put : Room := { frames := 0, cells := 0, slots := 0, locals := 0 }
def wpX3_put_0 (w0 : Nat) (x1 : Int32) (x2 : Int32) (x3 : Int32) (Q : CS → Prop) (σ : CS) : Prop :=
  (x1 < 0 →
    Q σ) ∧
  (¬ x1 < 0 →
    (x1 < (Int32.ofNat (capW w0)) →
      vp_in x1 (capW w0) ∧ (
      (x2 = 0 →
        Q (sFi σ w0 x1 x2)) ∧
      (¬ x2 = 0 →
        Q (sG (sS (sFi σ w0 x1 x2) w0 (x1 + (1 : Int32))) w0 x3)))) ∧
    (¬ x1 < (Int32.ofNat (capW w0)) →
      Q σ))
set_option maxRecDepth 100000 in
set_option maxHeartbeats 4000000 in
theorem wX3_put_0 {p : Program} {l : Launch} {e : Env} {s : State} {m : MethodId} {args : Array Value} {below : List Frame} {meth : Method} {c : Code} {D : va_G} {A : Nat → Prop} {g : mG} (hg : inj g) {w0 : Nat} {x1 : Int32} {x2 : Int32} {x3 : Int32} (hw0 : okW w0) (X : cx p m meth c s args cX3_put 4 RX3 D (tyG g)) (hr : meth.sig.returnType = none) {Q : CS → Prop} : ∀ (σ : CS), wpX3_put_0 w0 x1 x2 x3 Q σ → cW p l e rmX3_put s m args below meth c (MQ below (va_Qv Q (fun u t => wd D A (cT g u) t.heap) A) args s 0 0 A) D A (cT g σ) 0 4 [(0, .ref (g.1 (4 * w0))), (1, .int x1), (2, .int x2), (3, .int x3)] := by
  obtain ⟨hx, hb, hml, hown, hts, hK, hlk⟩ := id X
  intro σ h H locs ls hw hS hl
  unfold wpX3_put_0 at h
  refine lv_iload_n hx hb dX3_put_0 rfl (lv_at hl 1 rfl) ?_
  refine lv_if_lt (tgt := 13) hx hb dX3_put_1 (by decide) (fun hc => ?_) (fun hc => ?_)
  · replace h := h.1 hc
    exact m_vret X hr hw hS h dX3_put_13
  · replace h := h.2 hc
    refine lv_iload_n hx hb dX3_put_4 rfl (lv_at hl 1 rfl) ?_
    refine lv_aload_n hx hb dX3_put_5 rfl (lv_at hl 0 rfl) ?_
    refine m_get (v := .ref (g.1 (4 * w0 + 1))) X hw (tW hw0) rfl inA_X3 0 (by decide) mw_36 rfl dX3_put_6 ?_
    refine m_alen (v := Int32.ofNat (capW w0)) X hw (tD hw0) 0 rfl rfl dX3_put_9 ?_
    refine lv_icmp_lt (tgt := 14) hx hb dX3_put_10 (by decide) (fun hc => ?_) (fun hc => ?_)
    · replace h := h.1 hc
      refine lv_aload_n hx hb dX3_put_14 rfl (lv_at hl 0 rfl) ?_
      refine m_get (v := .ref (g.1 (4 * w0 + 1))) X hw (tW hw0) rfl inA_X3 0 (by decide) mw_36 rfl dX3_put_15 ?_
      refine lv_iload_n hx hb dX3_put_18 rfl (lv_at hl 1 rfl) ?_
      refine lv_iload_n hx hb dX3_put_19 rfl (lv_at hl 2 rfl) ?_
      obtain ⟨hi, h⟩ := h
      refine m_iast (T' := cT g (sFi σ w0 x1 x2)) X hw hS (tD hw0) 0 rfl hi (uF hg) dX3_put_20 (fun H locs hw hS => ?_)
      refine lv_iload_n hx hb dX3_put_21 rfl (lv_at hl 2 rfl) ?_
      refine lv_if_eq (tgt := 37) hx hb dX3_put_22 (by decide) (fun hc => ?_) (fun hc => ?_)
      · replace h := h.1 hc
        exact m_vret X hr hw hS h dX3_put_37
      · replace h := h.2 hc
        refine lv_aload_n hx hb dX3_put_25 rfl (lv_at hl 0 rfl) ?_
        refine lv_iload_n hx hb dX3_put_26 rfl (lv_at hl 1 rfl) ?_
        refine lv_iconst (v := (1 : Int32)) hx hb dX3_put_27 (by decide) ?_
        refine lv_iadd hx hb dX3_put_28 ?_
        refine m_put (T' := cT g (sS (sFi σ w0 x1 x2) w0 (x1 + (1 : Int32)))) X hw hS (tW hw0) rfl inA_X3 tyX3 tyX3_ok nmX3 1 (by decide) mw_100 rfl pd_I (Nat.le_of_ble_eq_true rfl) (uS hg) dX3_put_29 (fun H locs hw hS => ?_)
        refine lv_aload_n hx hb dX3_put_32 rfl (lv_at hl 0 rfl) ?_
        refine lv_iload_n hx hb dX3_put_33 rfl (lv_at hl 3 rfl) ?_
        refine m_put (T' := cT g (sG (sS (sFi σ w0 x1 x2) w0 (x1 + (1 : Int32))) w0 x3)) X hw hS (tW hw0) rfl inA_X3 tyX3 tyX3_ok nmX3 2 (by decide) mw_101 rfl pd_I (Nat.le_of_ble_eq_true rfl) (uG hg) dX3_put_34 (fun H locs hw hS => ?_)
        exact m_vret X hr hw hS h dX3_put_37
    · replace h := h.2 hc
      exact m_vret X hr hw hS h dX3_put_13
def wpX3_put (w0 : Nat) (x1 : Int32) (x2 : Int32) (x3 : Int32) (σ : CS) (Q : CS → Prop) : Prop := wpX3_put_0 w0 x1 x2 x3 Q σ
theorem kX3_put {l : Launch} {D : va_G} {A : Nat → Prop} {g : mG} (hg : inj g) {w0 : Nat} {x1 : Int32} {x2 : Int32} {x3 : Int32} (hw0 : okW w0) {σ : CS} {Q : CS → Prop} (h : wpX3_put w0 x1 x2 x3 σ Q) : Met l yX3_put (Cond.code yX3_put cX3_put 4 none :: wsA) rmX3_put (mPc D (tyG g) A (cT g σ) [.ref (g.1 (4 * w0)), .int x1, .int x2, .int x3]) (va_Qv Q (fun u t => wd D A (cT g u) t.heap) A) 0 0 A :=
  m_met (by decide +kernel) (Nat.le_of_ble_eq_true rfl) (fun p e s m below meth c X hr H locs ls hw hS hl => wX3_put_0 hg hw0 X hr σ h H locs ls hw hS (lv_sub hl [0, 1, 2, 3] rfl))
theorem fX3_put : vfit yX3_put cX3_put 4 none 3 := ⟨mw_135, mw_136, mw_29, mw_137, by decide +kernel, by decide +kernel, by decide +kernel⟩
/-! BigPolys$Whole.setOne()V -/
def rmX3_setOne : Room := { frames := 1, cells := 0, slots := 0, locals := 23 }
def wpX3_setOne_0 (w0 : Nat) (Q : CS → Prop) (σ : CS) : Prop :=
  wpX3_clear w0 σ (fun (σ2 : CS) =>
    wpX3_put w0 (0 : Int32) (1 : Int32) (1 : Int32) σ2 (fun (σ4 : CS) =>
      Q σ4))
set_option maxRecDepth 100000 in
set_option maxHeartbeats 4000000 in
theorem wX3_setOne_0 {p : Program} {l : Launch} {e : Env} {s : State} {m : MethodId} {args : Array Value} {below : List Frame} {meth : Method} {c : Code} {D : va_G} {A : Nat → Prop} {g : mG} (hg : inj g) {w0 : Nat} (hw0 : okW w0) (X : cx p m meth c s args cX3_setOne 1 RX3 D (tyG g)) (hr : meth.sig.returnType = none) {Q : CS → Prop} : ∀ (σ : CS), wpX3_setOne_0 w0 Q σ → cW p l e rmX3_setOne s m args below meth c (MQ below (va_Qv Q (fun u t => wd D A (cT g u) t.heap) A) args s 0 0 A) D A (cT g σ) 0 1 [(0, .ref (g.1 (4 * w0)))] := by
  obtain ⟨hx, hb, hml, hown, hts, hK, hlk⟩ := id X
  intro σ h H locs ls hw hS hl
  unfold wpX3_setOne_0 at h
  refine lv_aload_n hx hb dX3_setOne_0 rfl (lv_at hl 0 rfl) ?_
  refine m_cVv (TT := cT g) (As := []) (rest := []) X hl.1 hw hS (kX3_clear hg hw0 h) mw_291 fX3_clear (tW hw0) rfl rfl ⟨rfl, rfl, Nat.le_of_ble_eq_true rfl, Nat.le_of_ble_eq_true rfl⟩ rfl rfl (Nat.le_of_ble_eq_true rfl) dX3_setOne_1 (fun σ2 H locs h hw hS => ?_)
  refine lv_aload_n hx hb dX3_setOne_4 rfl (lv_at hl 0 rfl) ?_
  refine lv_iconst (v := (0 : Int32)) hx hb dX3_setOne_5 (by decide) ?_
  refine lv_iconst (v := (1 : Int32)) hx hb dX3_setOne_6 (by decide) ?_
  refine lv_iconst (v := (1 : Int32)) hx hb dX3_setOne_7 (by decide) ?_
  refine m_cVv (TT := cT g) (As := [.int (0 : Int32), .int (1 : Int32), .int (1 : Int32)]) (rest := []) X hl.1 hw hS (kX3_put hg hw0 h) mw_434 fX3_put (tW hw0) rfl rfl ⟨rfl, rfl, Nat.le_of_ble_eq_true rfl, Nat.le_of_ble_eq_true rfl⟩ rfl rfl (Nat.le_of_ble_eq_true rfl) dX3_setOne_8 (fun σ4 H locs h hw hS => ?_)
  exact m_vret X hr hw hS h dX3_setOne_11
def wpX3_setOne (w0 : Nat) (σ : CS) (Q : CS → Prop) : Prop := wpX3_setOne_0 w0 Q σ
theorem kX3_setOne {l : Launch} {D : va_G} {A : Nat → Prop} {g : mG} (hg : inj g) {w0 : Nat} (hw0 : okW w0) {σ : CS} {Q : CS → Prop} (h : wpX3_setOne w0 σ Q) : Met l yX3_setOne (Cond.code yX3_setOne cX3_setOne 1 none :: wsA) rmX3_setOne (mPc D (tyG g) A (cT g σ) [.ref (g.1 (4 * w0))]) (va_Qv Q (fun u t => wd D A (cT g u) t.heap) A) 0 0 A :=
  m_met (by decide +kernel) (Nat.le_of_ble_eq_true rfl) (fun p e s m below meth c X hr H locs ls hw hS hl => wX3_setOne_0 hg hw0 X hr σ h H locs ls hw hS (lv_sub hl [0] rfl))
theorem fX3_setOne : vfit yX3_setOne cX3_setOne 1 none 0 := ⟨mw_431, mw_432, mw_29, mw_433, by decide +kernel, by decide +kernel, by decide +kernel⟩
/-! BigPolys$Whole.load(LBigPolys$Whole;)V -/
def rmX3_load : Room := { frames := 1, cells := 0, slots := 0, locals := 40 }
def wpX3_load_0 (w0 : Nat) (w1 : Nat) (Q : CS → Prop) (σ : CS) : Prop :=
  ∀ a1 : Int32, a1 = (if (Int32.ofNat (capW w0)) < (cS σ w1) then (Int32.ofNat (capW w0)) else (cS σ w1)) →
  ¬ (0 : Int32) < 0 ∧ ¬ (0 : Int32) < 0 ∧ ¬ (cS (sG (sS σ w0 a1) w0 (cG (sS σ w0 a1) w1)) w0) < 0 ∧ (0 : Int32).toNatClampNeg + (cS (sG (sS σ w0 a1) w0 (cG (sS σ w0 a1) w1)) w0).toNatClampNeg ≤ capW w1 ∧ (0 : Int32).toNatClampNeg + (cS (sG (sS σ w0 a1) w0 (cG (sS σ w0 a1) w1)) w0).toNatClampNeg ≤ capW w0 ∧ (
  wpX3_trim w0 (sF (sG (sS σ w0 a1) w0 (cG (sS σ w0 a1) w1)) w0 (va_cpy (cF (sG (sS σ w0 a1) w0 (cG (sS σ w0 a1) w1)) w1) (cF (sG (sS σ w0 a1) w0 (cG (sS σ w0 a1) w1)) w0) (0 : Int32).toNatClampNeg (0 : Int32).toNatClampNeg (cS (sG (sS σ w0 a1) w0 (cG (sS σ w0 a1) w1)) w0).toNatClampNeg)) (fun (σ3 : CS) =>
    Q σ3))
set_option maxRecDepth 100000 in
set_option maxHeartbeats 4000000 in
theorem wX3_load_0 {p : Program} {l : Launch} {e : Env} {s : State} {m : MethodId} {args : Array Value} {below : List Frame} {meth : Method} {c : Code} {D : va_G} {A : Nat → Prop} {g : mG} (hg : inj g) {w0 : Nat} {w1 : Nat} (hw0 : okW w0) (hw1 : okW w1) (X : cx p m meth c s args cX3_load 2 RX3 D (tyG g)) (hr : meth.sig.returnType = none) {Q : CS → Prop} : ∀ (σ : CS), wpX3_load_0 w0 w1 Q σ → cW p l e rmX3_load s m args below meth c (MQ below (va_Qv Q (fun u t => wd D A (cT g u) t.heap) A) args s 0 0 A) D A (cT g σ) 0 2 [(0, .ref (g.1 (4 * w0))), (1, .ref (g.1 (4 * w1)))] := by
  obtain ⟨hx, hb, hml, hown, hts, hK, hlk⟩ := id X
  intro σ h H locs ls hw hS hl
  unfold wpX3_load_0 at h
  refine lv_aload_n hx hb dX3_load_0 rfl (lv_at hl 0 rfl) ?_
  refine lv_aload_n hx hb dX3_load_1 rfl (lv_at hl 1 rfl) ?_
  refine m_get (v := .int (cS σ w1)) X hw (tW hw1) rfl inA_X3 1 (by decide) mw_100 rfl dX3_load_2 ?_
  refine lv_aload_n hx hb dX3_load_5 rfl (lv_at hl 0 rfl) ?_
  refine m_get (v := .ref (g.1 (4 * w0 + 1))) X hw (tW hw0) rfl inA_X3 0 (by decide) mw_36 rfl dX3_load_6 ?_
  refine m_alen (v := Int32.ofNat (capW w0)) X hw (tD hw0) 0 rfl rfl dX3_load_9 ?_
  refine va_mmin hx hb (hml.trans hl.1.symm) hown (hts _ mw_186) (hts _ mw_53) (hts _ mw_54) (hts _ mw_55) (Nat.le_of_ble_eq_true rfl) (Nat.le_of_ble_eq_true rfl) (Nat.zero_le _) (Nat.zero_le _) dX3_load_10 ?_
  refine lv_topi (fun a1 ea1 => ?_)
  replace h := h a1 ea1
  refine m_put (T' := cT g (sS σ w0 a1)) X hw hS (tW hw0) rfl inA_X3 tyX3 tyX3_ok nmX3 1 (by decide) mw_100 rfl pd_I (Nat.le_of_ble_eq_true rfl) (uS hg) dX3_load_13 (fun H locs hw hS => ?_)
  refine lv_aload_n hx hb dX3_load_16 rfl (lv_at hl 0 rfl) ?_
  refine lv_aload_n hx hb dX3_load_17 rfl (lv_at hl 1 rfl) ?_
  refine m_get (v := .int (cG (sS σ w0 a1) w1)) X hw (tW hw1) rfl inA_X3 2 (by decide) mw_101 rfl dX3_load_18 ?_
  refine m_put (T' := cT g (sG (sS σ w0 a1) w0 (cG (sS σ w0 a1) w1))) X hw hS (tW hw0) rfl inA_X3 tyX3 tyX3_ok nmX3 2 (by decide) mw_101 rfl pd_I (Nat.le_of_ble_eq_true rfl) (uG hg) dX3_load_21 (fun H locs hw hS => ?_)
  refine lv_aload_n hx hb dX3_load_24 rfl (lv_at hl 1 rfl) ?_
  refine m_get (v := .ref (g.1 (4 * w1 + 1))) X hw (tW hw1) rfl inA_X3 0 (by decide) mw_36 rfl dX3_load_25 ?_
  refine lv_iconst (v := (0 : Int32)) hx hb dX3_load_28 (by decide) ?_
  refine lv_aload_n hx hb dX3_load_29 rfl (lv_at hl 0 rfl) ?_
  refine m_get (v := .ref (g.1 (4 * w0 + 1))) X hw (tW hw0) rfl inA_X3 0 (by decide) mw_36 rfl dX3_load_30 ?_
  refine lv_iconst (v := (0 : Int32)) hx hb dX3_load_33 (by decide) ?_
  refine lv_aload_n hx hb dX3_load_34 rfl (lv_at hl 0 rfl) ?_
  refine m_get (v := .int (cS (sG (sS σ w0 a1) w0 (cG (sS σ w0 a1) w1)) w0)) X hw (tW hw0) rfl inA_X3 1 (by decide) mw_100 rfl dX3_load_35 ?_
  obtain ⟨k1, k2, k3, k4, k5, h⟩ := h
  refine m_copyi (T' := cT g (sF (sG (sS σ w0 a1) w0 (cG (sS σ w0 a1) w1)) w0 (va_cpy (cF (sG (sS σ w0 a1) w0 (cG (sS σ w0 a1) w1)) w1) (cF (sG (sS σ w0 a1) w0 (cG (sS σ w0 a1) w1)) w0) (0 : Int32).toNatClampNeg (0 : Int32).toNatClampNeg (cS (sG (sS σ w0 a1) w0 (cG (sS σ w0 a1) w1)) w0).toNatClampNeg))) X hl.1 hw hS mw_187 mw_188 mw_189 mw_190 (tD hw1) (tD hw0) 0 rfl k1 k2 k3 k4 k5 (Nat.le_of_ble_eq_true rfl) (Nat.le_of_ble_eq_true rfl) (uF hg) dX3_load_38 (fun H locs hw hS => ?_)
  refine lv_aload_n hx hb dX3_load_41 rfl (lv_at hl 0 rfl) ?_
  refine m_cVv (TT := cT g) (As := []) (rest := []) X hl.1 hw hS (kX3_trim hg hw0 h) mw_191 fX3_trim (tW hw0) rfl rfl ⟨rfl, rfl, Nat.le_of_ble_eq_true rfl, Nat.le_of_ble_eq_true rfl⟩ rfl rfl (Nat.le_of_ble_eq_true rfl) dX3_load_42 (fun σ3 H locs h hw hS => ?_)
  exact m_vret X hr hw hS h dX3_load_45
def wpX3_load (w0 : Nat) (w1 : Nat) (σ : CS) (Q : CS → Prop) : Prop := wpX3_load_0 w0 w1 Q σ
theorem kX3_load {l : Launch} {D : va_G} {A : Nat → Prop} {g : mG} (hg : inj g) {w0 : Nat} {w1 : Nat} (hw0 : okW w0) (hw1 : okW w1) {σ : CS} {Q : CS → Prop} (h : wpX3_load w0 w1 σ Q) : Met l yX3_load (Cond.code yX3_load cX3_load 2 none :: wsA) rmX3_load (mPc D (tyG g) A (cT g σ) [.ref (g.1 (4 * w0)), .ref (g.1 (4 * w1))]) (va_Qv Q (fun u t => wd D A (cT g u) t.heap) A) 0 0 A :=
  m_met (by decide +kernel) (Nat.le_of_ble_eq_true rfl) (fun p e s m below meth c X hr H locs ls hw hS hl => wX3_load_0 hg hw0 hw1 X hr σ h H locs ls hw hS (lv_sub hl [0, 1] rfl))
theorem fX3_load : vfit yX3_load cX3_load 2 none 1 := ⟨mw_183, mw_184, mw_29, mw_185, by decide +kernel, by decide +kernel, by decide +kernel⟩
/-! BigPolys$Whole.negate()V -/
def rmX3_negate : Room := { frames := 0, cells := 0, slots := 0, locals := 0 }
def wpX3_negate_0 (w0 : Nat) (Q : CS → Prop) (σ : CS) : Prop :=
  Q (sG σ w0 (-(cG σ w0)))
set_option maxRecDepth 100000 in
set_option maxHeartbeats 4000000 in
theorem wX3_negate_0 {p : Program} {l : Launch} {e : Env} {s : State} {m : MethodId} {args : Array Value} {below : List Frame} {meth : Method} {c : Code} {D : va_G} {A : Nat → Prop} {g : mG} (hg : inj g) {w0 : Nat} (hw0 : okW w0) (X : cx p m meth c s args cX3_negate 1 RX3 D (tyG g)) (hr : meth.sig.returnType = none) {Q : CS → Prop} : ∀ (σ : CS), wpX3_negate_0 w0 Q σ → cW p l e rmX3_negate s m args below meth c (MQ below (va_Qv Q (fun u t => wd D A (cT g u) t.heap) A) args s 0 0 A) D A (cT g σ) 0 1 [(0, .ref (g.1 (4 * w0)))] := by
  obtain ⟨hx, hb, hml, hown, hts, hK, hlk⟩ := id X
  intro σ h H locs ls hw hS hl
  unfold wpX3_negate_0 at h
  refine lv_aload_n hx hb dX3_negate_0 rfl (lv_at hl 0 rfl) ?_
  refine lv_aload_n hx hb dX3_negate_1 rfl (lv_at hl 0 rfl) ?_
  refine m_get (v := .int (cG σ w0)) X hw (tW hw0) rfl inA_X3 2 (by decide) mw_101 rfl dX3_negate_2 ?_
  refine lv_ineg hx hb dX3_negate_5 ?_
  refine m_put (T' := cT g (sG σ w0 (-(cG σ w0)))) X hw hS (tW hw0) rfl inA_X3 tyX3 tyX3_ok nmX3 2 (by decide) mw_101 rfl pd_I (Nat.le_of_ble_eq_true rfl) (uG hg) dX3_negate_6 (fun H locs hw hS => ?_)
  exact m_vret X hr hw hS h dX3_negate_9
def wpX3_negate (w0 : Nat) (σ : CS) (Q : CS → Prop) : Prop := wpX3_negate_0 w0 Q σ
theorem kX3_negate {l : Launch} {D : va_G} {A : Nat → Prop} {g : mG} (hg : inj g) {w0 : Nat} (hw0 : okW w0) {σ : CS} {Q : CS → Prop} (h : wpX3_negate w0 σ Q) : Met l yX3_negate (Cond.code yX3_negate cX3_negate 1 none :: wsA) rmX3_negate (mPc D (tyG g) A (cT g σ) [.ref (g.1 (4 * w0))]) (va_Qv Q (fun u t => wd D A (cT g u) t.heap) A) 0 0 A :=
  m_met (by decide +kernel) (Nat.le_of_ble_eq_true rfl) (fun p e s m below meth c X hr H locs ls hw hS hl => wX3_negate_0 hg hw0 X hr σ h H locs ls hw hS (lv_sub hl [0] rfl))
theorem fX3_negate : vfit yX3_negate cX3_negate 1 none 0 := ⟨mw_328, mw_329, mw_29, mw_330, by decide +kernel, by decide +kernel, by decide +kernel⟩
/-! BigPolys$Whole.isUnit()Z -/
def rmX3_isUnit : Room := { frames := 0, cells := 0, slots := 0, locals := 0 }
def wpX3_isUnit_22 (w0 : Nat) (Q : Int32 → CS → Prop) (σ : CS) : Prop :=
  Q (0 : Int32) σ
set_option maxRecDepth 100000 in
set_option maxHeartbeats 4000000 in
theorem wX3_isUnit_22 {p : Program} {l : Launch} {e : Env} {s : State} {m : MethodId} {args : Array Value} {below : List Frame} {meth : Method} {c : Code} {D : va_G} {A : Nat → Prop} {g : mG} (hg : inj g) {w0 : Nat} (hw0 : okW w0) (X : cx p m meth c s args cX3_isUnit 1 RX3 D (tyG g)) (hr : meth.sig.returnType = (some .boolean)) {Q : Int32 → CS → Prop} : ∀ (σ : CS), wpX3_isUnit_22 w0 Q σ → cW p l e rmX3_isUnit s m args below meth c (MQ below (va_Qi Q (fun u t => wd D A (cT g u) t.heap) A) args s 0 0 A) D A (cT g σ) 22 1 [(0, .ref (g.1 (4 * w0)))] := by
  obtain ⟨hx, hb, hml, hown, hts, hK, hlk⟩ := id X
  intro σ h H locs ls hw hS hl
  unfold wpX3_isUnit_22 at h
  refine lv_iconst (v := (0 : Int32)) hx hb dX3_isUnit_22 (by decide) ?_
  exact m_zret X hr rfl hw hS h dX3_isUnit_23
def wpX3_isUnit_0 (w0 : Nat) (Q : Int32 → CS → Prop) (σ : CS) : Prop :=
  (¬ (cS σ w0) = (1 : Int32) →
    wpX3_isUnit_22 w0 Q σ) ∧
  ((cS σ w0) = (1 : Int32) →
    vp_in (0 : Int32) (capW w0) ∧ (
    (¬ (cF σ w0 (0 : Int32).toNatClampNeg) = (1 : Int32) →
      wpX3_isUnit_22 w0 Q σ) ∧
    ((cF σ w0 (0 : Int32).toNatClampNeg) = (1 : Int32) →
      Q (1 : Int32) σ)))
set_option maxRecDepth 100000 in
set_option maxHeartbeats 4000000 in
theorem wX3_isUnit_0 {p : Program} {l : Launch} {e : Env} {s : State} {m : MethodId} {args : Array Value} {below : List Frame} {meth : Method} {c : Code} {D : va_G} {A : Nat → Prop} {g : mG} (hg : inj g) {w0 : Nat} (hw0 : okW w0) (X : cx p m meth c s args cX3_isUnit 1 RX3 D (tyG g)) (hr : meth.sig.returnType = (some .boolean)) {Q : Int32 → CS → Prop} : ∀ (σ : CS), wpX3_isUnit_0 w0 Q σ → cW p l e rmX3_isUnit s m args below meth c (MQ below (va_Qi Q (fun u t => wd D A (cT g u) t.heap) A) args s 0 0 A) D A (cT g σ) 0 1 [(0, .ref (g.1 (4 * w0)))] := by
  obtain ⟨hx, hb, hml, hown, hts, hK, hlk⟩ := id X
  intro σ h H locs ls hw hS hl
  unfold wpX3_isUnit_0 at h
  refine lv_aload_n hx hb dX3_isUnit_0 rfl (lv_at hl 0 rfl) ?_
  refine m_get (v := .int (cS σ w0)) X hw (tW hw0) rfl inA_X3 1 (by decide) mw_100 rfl dX3_isUnit_1 ?_
  refine lv_iconst (v := (1 : Int32)) hx hb dX3_isUnit_4 (by decide) ?_
  refine lv_icmp_ne (tgt := 22) hx hb dX3_isUnit_5 (by decide) (fun hc => ?_) (fun hc => ?_)
  · replace h := h.1 hc
    exact wX3_isUnit_22 hg hw0 X hr _ h H locs ls hw hS (lv_sub hl [0] rfl)
  · replace h := h.2 hc
    refine lv_aload_n hx hb dX3_isUnit_8 rfl (lv_at hl 0 rfl) ?_
    refine m_get (v := .ref (g.1 (4 * w0 + 1))) X hw (tW hw0) rfl inA_X3 0 (by decide) mw_36 rfl dX3_isUnit_9 ?_
    refine lv_iconst (v := (0 : Int32)) hx hb dX3_isUnit_12 (by decide) ?_
    obtain ⟨hi, h⟩ := h
    refine m_iald X hw (tD hw0) 0 rfl hi dX3_isUnit_13 ?_
    refine lv_iconst (v := (1 : Int32)) hx hb dX3_isUnit_14 (by decide) ?_
    refine lv_icmp_ne (tgt := 22) hx hb dX3_isUnit_15 (by decide) (fun hc => ?_) (fun hc => ?_)
    · replace h := h.1 hc
      exact wX3_isUnit_22 hg hw0 X hr _ h H locs ls hw hS (lv_sub hl [0] rfl)
    · replace h := h.2 hc
      refine lv_iconst (v := (1 : Int32)) hx hb dX3_isUnit_18 (by decide) ?_
      refine lv_goto (tgt := 23) hx hb dX3_isUnit_19 (by decide) ?_
      exact m_zret X hr rfl hw hS h dX3_isUnit_23
def wpX3_isUnit (w0 : Nat) (σ : CS) (Q : Int32 → CS → Prop) : Prop := wpX3_isUnit_0 w0 Q σ
theorem kX3_isUnit {l : Launch} {D : va_G} {A : Nat → Prop} {g : mG} (hg : inj g) {w0 : Nat} (hw0 : okW w0) {σ : CS} {Q : Int32 → CS → Prop} (h : wpX3_isUnit w0 σ Q) : Met l yX3_isUnit (Cond.code yX3_isUnit cX3_isUnit 1 (some .boolean) :: wsA) rmX3_isUnit (mPc D (tyG g) A (cT g σ) [.ref (g.1 (4 * w0))]) (va_Qi Q (fun u t => wd D A (cT g u) t.heap) A) 0 0 A :=
  m_met (by decide +kernel) (Nat.le_of_ble_eq_true rfl) (fun p e s m below meth c X hr H locs ls hw hS hl => wX3_isUnit_0 hg hw0 X hr σ h H locs ls hw hS (lv_sub hl [0] rfl))
theorem fX3_isUnit : vfit yX3_isUnit cX3_isUnit 1 (some .boolean) 0 := ⟨mw_413, mw_414, mw_29, mw_415, by decide +kernel, by decide +kernel, by decide +kernel⟩
/-! BigPolys$Whole.compareAbs(LBigPolys$Whole;)I -/
def rmX3_compareAbs : Room := { frames := 0, cells := 0, slots := 0, locals := 0 }
def wbX3_compareAbs_35 (w0 : Nat) (w1 : Nat) (Q : Int32 → CS → Prop) (N35 : Int32 → CS → Prop) (i2 : Int32) (σ : CS) : Prop :=
  (i2 < 0 →
    Q (0 : Int32) σ) ∧
  (¬ i2 < 0 →
    vp_in i2 (capW w0) ∧ (
    vp_in i2 (capW w1) ∧ (
    ((cF σ w0 i2.toNatClampNeg) = (cF σ w1 i2.toNatClampNeg) →
      ∀ a1 : Int32, a1 = i2 + (-1 : Int32) →
      N35 a1 σ) ∧
    (¬ (cF σ w0 i2.toNatClampNeg) = (cF σ w1 i2.toNatClampNeg) →
      vp_in i2 (capW w0) ∧ (
      vp_in i2 (capW w1) ∧ (
      ((cF σ w1 i2.toNatClampNeg) ≤ (cF σ w0 i2.toNatClampNeg) →
        Q (1 : Int32) σ) ∧
      (¬ (cF σ w1 i2.toNatClampNeg) ≤ (cF σ w0 i2.toNatClampNeg) →
        Q (-1 : Int32) σ)))))))
set_option maxRecDepth 100000 in
set_option maxHeartbeats 4000000 in
theorem wX3_compareAbs_35 {p : Program} {l : Launch} {e : Env} {s : State} {m : MethodId} {args : Array Value} {below : List Frame} {meth : Method} {c : Code} {D : va_G} {A : Nat → Prop} {g : mG} (hg : inj g) {w0 : Nat} {w1 : Nat} (hw0 : okW w0) (hw1 : okW w1) (X : cx p m meth c s args cX3_compareAbs 3 RX3 D (tyG g)) (hr : meth.sig.returnType = (some .int)) {Q : Int32 → CS → Prop} : ∀ (n : Nat) (i2 : Int32) (σ : CS), lq2 (wbX3_compareAbs_35 w0 w1 Q) n i2 σ → cW p l e rmX3_compareAbs s m args below meth c (MQ below (va_Qi Q (fun u t => wd D A (cT g u) t.heap) A) args s 0 0 A) D A (cT g σ) 35 3 [(0, .ref (g.1 (4 * w0))), (1, .ref (g.1 (4 * w1))), (2, .int i2)] := by
  obtain ⟨hx, hb, hml, hown, hts, hK, hlk⟩ := id X
  intro n
  induction n with
  | zero =>
    intro i2 σ h
    exact h.elim
  | succ n hN35 =>
    intro i2 σ h H locs ls hw hS hl
    replace h : wbX3_compareAbs_35 w0 w1 Q (lq2 (wbX3_compareAbs_35 w0 w1 Q) n) i2 σ := h
    unfold wbX3_compareAbs_35 at h
    refine lv_iload_n hx hb dX3_compareAbs_35 rfl (lv_at hl 2 rfl) ?_
    refine lv_if_lt (tgt := 81) hx hb dX3_compareAbs_36 (by decide) (fun hc => ?_) (fun hc => ?_)
    · replace h := h.1 hc
      refine lv_iconst (v := (0 : Int32)) hx hb dX3_compareAbs_81 (by decide) ?_
      exact m_iret X hr hw hS h dX3_compareAbs_82
    · replace h := h.2 hc
      refine lv_aload_n hx hb dX3_compareAbs_39 rfl (lv_at hl 0 rfl) ?_
      refine m_get (v := .ref (g.1 (4 * w0 + 1))) X hw (tW hw0) rfl inA_X3 0 (by decide) mw_36 rfl dX3_compareAbs_40 ?_
      refine lv_iload_n hx hb dX3_compareAbs_43 rfl (lv_at hl 2 rfl) ?_
      obtain ⟨hi, h⟩ := h
      refine m_iald X hw (tD hw0) 0 rfl hi dX3_compareAbs_44 ?_
      refine lv_aload_n hx hb dX3_compareAbs_45 rfl (lv_at hl 1 rfl) ?_
      refine m_get (v := .ref (g.1 (4 * w1 + 1))) X hw (tW hw1) rfl inA_X3 0 (by decide) mw_36 rfl dX3_compareAbs_46 ?_
      refine lv_iload_n hx hb dX3_compareAbs_49 rfl (lv_at hl 2 rfl) ?_
      obtain ⟨hi, h⟩ := h
      refine m_iald X hw (tD hw1) 0 rfl hi dX3_compareAbs_50 ?_
      refine lv_icmp_eq (tgt := 75) hx hb dX3_compareAbs_51 (by decide) (fun hc => ?_) (fun hc => ?_)
      · replace h := h.1 hc
        obtain ⟨a1, ea1⟩ : ∃ z : Int32, z = i2 + (-1 : Int32) := ⟨_, rfl⟩
        replace h := h a1 ea1
        refine lv_iinc (v := a1) (lv' := [(2, .int a1), (0, .ref (g.1 (4 * w0))), (1, .ref (g.1 (4 * w1)))]) hx hb dX3_compareAbs_75 hl (k := 2) rfl (by rw [ea1]; rfl) (by decide) rfl (fun ls hl => ?_)
        refine lv_goto (tgt := 35) hx hb dX3_compareAbs_78 (by decide) ?_
        exact hN35 a1 _ h H locs ls hw hS (lv_sub hl [1, 2, 0] rfl)
      · replace h := h.2 hc
        refine lv_aload_n hx hb dX3_compareAbs_54 rfl (lv_at hl 0 rfl) ?_
        refine m_get (v := .ref (g.1 (4 * w0 + 1))) X hw (tW hw0) rfl inA_X3 0 (by decide) mw_36 rfl dX3_compareAbs_55 ?_
        refine lv_iload_n hx hb dX3_compareAbs_58 rfl (lv_at hl 2 rfl) ?_
        obtain ⟨hi, h⟩ := h
        refine m_iald X hw (tD hw0) 0 rfl hi dX3_compareAbs_59 ?_
        refine lv_aload_n hx hb dX3_compareAbs_60 rfl (lv_at hl 1 rfl) ?_
        refine m_get (v := .ref (g.1 (4 * w1 + 1))) X hw (tW hw1) rfl inA_X3 0 (by decide) mw_36 rfl dX3_compareAbs_61 ?_
        refine lv_iload_n hx hb dX3_compareAbs_64 rfl (lv_at hl 2 rfl) ?_
        obtain ⟨hi, h⟩ := h
        refine m_iald X hw (tD hw1) 0 rfl hi dX3_compareAbs_65 ?_
        refine lv_icmp_ge (tgt := 73) hx hb dX3_compareAbs_66 (by decide) (fun hc => ?_) (fun hc => ?_)
        · replace h := h.1 hc
          refine lv_iconst (v := (1 : Int32)) hx hb dX3_compareAbs_73 (by decide) ?_
          exact m_iret X hr hw hS h dX3_compareAbs_74
        · replace h := h.2 hc
          refine lv_iconst (v := (-1 : Int32)) hx hb dX3_compareAbs_69 (by decide) ?_
          refine lv_goto (tgt := 74) hx hb dX3_compareAbs_70 (by decide) ?_
          exact m_iret X hr hw hS h dX3_compareAbs_74
def wpX3_compareAbs_0 (w0 : Nat) (w1 : Nat) (Q : Int32 → CS → Prop) (σ : CS) : Prop :=
  ((cS σ w0) = (cS σ w1) →
    ∀ a2 : Int32, a2 = (cS σ w0) - (1 : Int32) →
    ∃ n, lq2 (wbX3_compareAbs_35 w0 w1 Q) n a2 σ) ∧
  (¬ (cS σ w0) = (cS σ w1) →
    ((cS σ w1) ≤ (cS σ w0) →
      Q (1 : Int32) σ) ∧
    (¬ (cS σ w1) ≤ (cS σ w0) →
      Q (-1 : Int32) σ))
set_option maxRecDepth 100000 in
set_option maxHeartbeats 4000000 in
theorem wX3_compareAbs_0 {p : Program} {l : Launch} {e : Env} {s : State} {m : MethodId} {args : Array Value} {below : List Frame} {meth : Method} {c : Code} {D : va_G} {A : Nat → Prop} {g : mG} (hg : inj g) {w0 : Nat} {w1 : Nat} (hw0 : okW w0) (hw1 : okW w1) (X : cx p m meth c s args cX3_compareAbs 3 RX3 D (tyG g)) (hr : meth.sig.returnType = (some .int)) {Q : Int32 → CS → Prop} : ∀ (σ : CS), wpX3_compareAbs_0 w0 w1 Q σ → cW p l e rmX3_compareAbs s m args below meth c (MQ below (va_Qi Q (fun u t => wd D A (cT g u) t.heap) A) args s 0 0 A) D A (cT g σ) 0 3 [(0, .ref (g.1 (4 * w0))), (1, .ref (g.1 (4 * w1)))] := by
  obtain ⟨hx, hb, hml, hown, hts, hK, hlk⟩ := id X
  intro σ h H locs ls hw hS hl
  unfold wpX3_compareAbs_0 at h
  refine lv_aload_n hx hb dX3_compareAbs_0 rfl (lv_at hl 0 rfl) ?_
  refine m_get (v := .int (cS σ w0)) X hw (tW hw0) rfl inA_X3 1 (by decide) mw_100 rfl dX3_compareAbs_1 ?_
  refine lv_aload_n hx hb dX3_compareAbs_4 rfl (lv_at hl 1 rfl) ?_
  refine m_get (v := .int (cS σ w1)) X hw (tW hw1) rfl inA_X3 1 (by decide) mw_100 rfl dX3_compareAbs_5 ?_
  refine lv_icmp_eq (tgt := 28) hx hb dX3_compareAbs_8 (by decide) (fun hc => ?_) (fun hc => ?_)
  · replace h := h.1 hc
    refine lv_aload_n hx hb dX3_compareAbs_28 rfl (lv_at hl 0 rfl) ?_
    refine m_get (v := .int (cS σ w0)) X hw (tW hw0) rfl inA_X3 1 (by decide) mw_100 rfl dX3_compareAbs_29 ?_
    refine lv_iconst (v := (1 : Int32)) hx hb dX3_compareAbs_32 (by decide) ?_
    refine lv_isub hx hb dX3_compareAbs_33 ?_
    refine lv_topi (fun a2 ea2 => ?_)
    replace h := h a2 ea2
    refine lv_istore_n (lv' := [(2, .int a2), (0, .ref (g.1 (4 * w0))), (1, .ref (g.1 (4 * w1)))]) hx hb dX3_compareAbs_34 rfl hl (by decide) rfl (fun ls hl => ?_)
    obtain ⟨n9, h⟩ := h
    exact wX3_compareAbs_35 hg hw0 hw1 X hr n9 a2 _ h H locs ls hw hS (lv_sub hl [1, 2, 0] rfl)
  · replace h := h.2 hc
    refine lv_aload_n hx hb dX3_compareAbs_11 rfl (lv_at hl 0 rfl) ?_
    refine m_get (v := .int (cS σ w0)) X hw (tW hw0) rfl inA_X3 1 (by decide) mw_100 rfl dX3_compareAbs_12 ?_
    refine lv_aload_n hx hb dX3_compareAbs_15 rfl (lv_at hl 1 rfl) ?_
    refine m_get (v := .int (cS σ w1)) X hw (tW hw1) rfl inA_X3 1 (by decide) mw_100 rfl dX3_compareAbs_16 ?_
    refine lv_icmp_ge (tgt := 26) hx hb dX3_compareAbs_19 (by decide) (fun hc => ?_) (fun hc => ?_)
    · replace h := h.1 hc
      refine lv_iconst (v := (1 : Int32)) hx hb dX3_compareAbs_26 (by decide) ?_
      exact m_iret X hr hw hS h dX3_compareAbs_27
    · replace h := h.2 hc
      refine lv_iconst (v := (-1 : Int32)) hx hb dX3_compareAbs_22 (by decide) ?_
      refine lv_goto (tgt := 27) hx hb dX3_compareAbs_23 (by decide) ?_
      exact m_iret X hr hw hS h dX3_compareAbs_27
def wpX3_compareAbs (w0 : Nat) (w1 : Nat) (σ : CS) (Q : Int32 → CS → Prop) : Prop := wpX3_compareAbs_0 w0 w1 Q σ
theorem kX3_compareAbs {l : Launch} {D : va_G} {A : Nat → Prop} {g : mG} (hg : inj g) {w0 : Nat} {w1 : Nat} (hw0 : okW w0) (hw1 : okW w1) {σ : CS} {Q : Int32 → CS → Prop} (h : wpX3_compareAbs w0 w1 σ Q) : Met l yX3_compareAbs (Cond.code yX3_compareAbs cX3_compareAbs 3 (some .int) :: wsA) rmX3_compareAbs (mPc D (tyG g) A (cT g σ) [.ref (g.1 (4 * w0)), .ref (g.1 (4 * w1))]) (va_Qi Q (fun u t => wd D A (cT g u) t.heap) A) 0 0 A :=
  m_met (by decide +kernel) (Nat.le_of_ble_eq_true rfl) (fun p e s m below meth c X hr H locs ls hw hS hl => wX3_compareAbs_0 hg hw0 hw1 X hr σ h H locs ls hw hS (lv_sub hl [0, 1] rfl))
theorem fX3_compareAbs : vfit yX3_compareAbs cX3_compareAbs 3 (some .int) 1 := ⟨mw_210, mw_211, mw_29, mw_212, by decide +kernel, by decide +kernel, by decide +kernel⟩
/-! BigPolys$Whole.isLike(LBigPolys$Whole;)Z -/
def rmX3_isLike : Room := { frames := 1, cells := 0, slots := 0, locals := 22 }
def wpX3_isLike_23 (w0 : Nat) (w1 : Nat) (Q : Int32 → CS → Prop) (σ : CS) : Prop :=
  Q (0 : Int32) σ
set_option maxRecDepth 100000 in
set_option maxHeartbeats 4000000 in
theorem wX3_isLike_23 {p : Program} {l : Launch} {e : Env} {s : State} {m : MethodId} {args : Array Value} {below : List Frame} {meth : Method} {c : Code} {D : va_G} {A : Nat → Prop} {g : mG} (hg : inj g) {w0 : Nat} {w1 : Nat} (hw0 : okW w0) (hw1 : okW w1) (X : cx p m meth c s args cX3_isLike 2 RX3 D (tyG g)) (hr : meth.sig.returnType = (some .boolean)) {Q : Int32 → CS → Prop} : ∀ (σ : CS), wpX3_isLike_23 w0 w1 Q σ → cW p l e rmX3_isLike s m args below meth c (MQ below (va_Qi Q (fun u t => wd D A (cT g u) t.heap) A) args s 0 0 A) D A (cT g σ) 23 2 [(0, .ref (g.1 (4 * w0))), (1, .ref (g.1 (4 * w1)))] := by
  obtain ⟨hx, hb, hml, hown, hts, hK, hlk⟩ := id X
  intro σ h H locs ls hw hS hl
  unfold wpX3_isLike_23 at h
  refine lv_iconst (v := (0 : Int32)) hx hb dX3_isLike_23 (by decide) ?_
  exact m_zret X hr rfl hw hS h dX3_isLike_24
def wpX3_isLike_0 (w0 : Nat) (w1 : Nat) (Q : Int32 → CS → Prop) (σ : CS) : Prop :=
  (¬ (cG σ w0) = (cG σ w1) →
    wpX3_isLike_23 w0 w1 Q σ) ∧
  ((cG σ w0) = (cG σ w1) →
    wpX3_compareAbs w0 w1 σ (fun (r1 : Int32) (σ2 : CS) =>
      (¬ r1 = 0 →
        wpX3_isLike_23 w0 w1 Q σ2) ∧
      (r1 = 0 →
        Q (1 : Int32) σ2)))
set_option maxRecDepth 100000 in
set_option maxHeartbeats 4000000 in
theorem wX3_isLike_0 {p : Program} {l : Launch} {e : Env} {s : State} {m : MethodId} {args : Array Value} {below : List Frame} {meth : Method} {c : Code} {D : va_G} {A : Nat → Prop} {g : mG} (hg : inj g) {w0 : Nat} {w1 : Nat} (hw0 : okW w0) (hw1 : okW w1) (X : cx p m meth c s args cX3_isLike 2 RX3 D (tyG g)) (hr : meth.sig.returnType = (some .boolean)) {Q : Int32 → CS → Prop} : ∀ (σ : CS), wpX3_isLike_0 w0 w1 Q σ → cW p l e rmX3_isLike s m args below meth c (MQ below (va_Qi Q (fun u t => wd D A (cT g u) t.heap) A) args s 0 0 A) D A (cT g σ) 0 2 [(0, .ref (g.1 (4 * w0))), (1, .ref (g.1 (4 * w1)))] := by
  obtain ⟨hx, hb, hml, hown, hts, hK, hlk⟩ := id X
  intro σ h H locs ls hw hS hl
  unfold wpX3_isLike_0 at h
  refine lv_aload_n hx hb dX3_isLike_0 rfl (lv_at hl 0 rfl) ?_
  refine m_get (v := .int (cG σ w0)) X hw (tW hw0) rfl inA_X3 2 (by decide) mw_101 rfl dX3_isLike_1 ?_
  refine lv_aload_n hx hb dX3_isLike_4 rfl (lv_at hl 1 rfl) ?_
  refine m_get (v := .int (cG σ w1)) X hw (tW hw1) rfl inA_X3 2 (by decide) mw_101 rfl dX3_isLike_5 ?_
  refine lv_icmp_ne (tgt := 23) hx hb dX3_isLike_8 (by decide) (fun hc => ?_) (fun hc => ?_)
  · replace h := h.1 hc
    exact wX3_isLike_23 hg hw0 hw1 X hr _ h H locs ls hw hS (lv_sub hl [0, 1] rfl)
  · replace h := h.2 hc
    refine lv_aload_n hx hb dX3_isLike_11 rfl (lv_at hl 0 rfl) ?_
    refine lv_aload_n hx hb dX3_isLike_12 rfl (lv_at hl 1 rfl) ?_
    refine m_cVi (TT := cT g) (As := [.ref (g.1 (4 * w1))]) (rest := []) X hl.1 hw hS (kX3_compareAbs hg hw0 hw1 h) mw_209 fX3_compareAbs (tW hw0) rfl rfl ⟨rfl, rfl, Nat.le_of_ble_eq_true rfl, Nat.le_of_ble_eq_true rfl⟩ rfl rfl (Nat.le_of_ble_eq_true rfl) dX3_isLike_13 (fun r1 σ2 H locs h hw hS => ?_)
    refine lv_if_ne (tgt := 23) hx hb dX3_isLike_16 (by decide) (fun hc => ?_) (fun hc => ?_)
    · replace h := h.1 hc
      exact wX3_isLike_23 hg hw0 hw1 X hr _ h H locs ls hw hS (lv_sub hl [0, 1] rfl)
    · replace h := h.2 hc
      refine lv_iconst (v := (1 : Int32)) hx hb dX3_isLike_19 (by decide) ?_
      refine lv_goto (tgt := 24) hx hb dX3_isLike_20 (by decide) ?_
      exact m_zret X hr rfl hw hS h dX3_isLike_24
def wpX3_isLike (w0 : Nat) (w1 : Nat) (σ : CS) (Q : Int32 → CS → Prop) : Prop := wpX3_isLike_0 w0 w1 Q σ
theorem kX3_isLike {l : Launch} {D : va_G} {A : Nat → Prop} {g : mG} (hg : inj g) {w0 : Nat} {w1 : Nat} (hw0 : okW w0) (hw1 : okW w1) {σ : CS} {Q : Int32 → CS → Prop} (h : wpX3_isLike w0 w1 σ Q) : Met l yX3_isLike (Cond.code yX3_isLike cX3_isLike 2 (some .boolean) :: wsA) rmX3_isLike (mPc D (tyG g) A (cT g σ) [.ref (g.1 (4 * w0)), .ref (g.1 (4 * w1))]) (va_Qi Q (fun u t => wd D A (cT g u) t.heap) A) 0 0 A :=
  m_met (by decide +kernel) (Nat.le_of_ble_eq_true rfl) (fun p e s m below meth c X hr H locs ls hw hS hl => wX3_isLike_0 hg hw0 hw1 X hr σ h H locs ls hw hS (lv_sub hl [0, 1] rfl))
theorem fX3_isLike : vfit yX3_isLike cX3_isLike 2 (some .boolean) 1 := ⟨mw_638, mw_639, mw_29, mw_640, by decide +kernel, by decide +kernel, by decide +kernel⟩
/-! BigPolys$Whole.join(LBigPolys$Whole;)V -/
def rmX3_join : Room := { frames := 1, cells := 0, slots := 0, locals := 24 }
def wpX3_join_75 (w0 : Nat) (w1 : Nat) (Q : CS → Prop) (N25 : Int32 → Int32 → Int32 → CS → Prop) (i2 : Int32) (i3 : Int32) (i4 : Int32) (i5 : Int32) (i6 : Int32) (σ : CS) : Prop :=
  ∀ a1 : Int32, a1 = (i5 + i6) + i3 →
  vp_in i4 (capW w0) ∧ (
  ∀ a2 : Int32, a2 = jushr a1 (31 : Int32) →
  ∀ a3 : Int32, a3 = i4 + (1 : Int32) →
  N25 i2 a2 a3 (sFi σ w0 i4 (a1 &&& (2147483647 : Int32))))
set_option maxRecDepth 100000 in
set_option maxHeartbeats 4000000 in
theorem wX3_join_75 {p : Program} {l : Launch} {e : Env} {s : State} {m : MethodId} {args : Array Value} {below : List Frame} {meth : Method} {c : Code} {D : va_G} {A : Nat → Prop} {g : mG} (hg : inj g) {w0 : Nat} {w1 : Nat} (hw0 : okW w0) (hw1 : okW w1) (X : cx p m meth c s args cX3_join 8 RX3 D (tyG g)) (hr : meth.sig.returnType = none) {Q : CS → Prop} {N25 : Int32 → Int32 → Int32 → CS → Prop} (hN25 : ∀ (i2 : Int32) (i3 : Int32) (i4 : Int32) (σ : CS), N25 i2 i3 i4 σ → cW p l e rmX3_join s m args below meth c (MQ below (va_Qv Q (fun u t => wd D A (cT g u) t.heap) A) args s 0 0 A) D A (cT g σ) 25 8 [(0, .ref (g.1 (4 * w0))), (1, .ref (g.1 (4 * w1))), (2, .int i2), (3, .int i3), (4, .int i4)]) : ∀ (i2 : Int32) (i3 : Int32) (i4 : Int32) (i5 : Int32) (i6 : Int32) (σ : CS), wpX3_join_75 w0 w1 Q N25 i2 i3 i4 i5 i6 σ → cW p l e rmX3_join s m args below meth c (MQ below (va_Qv Q (fun u t => wd D A (cT g u) t.heap) A) args s 0 0 A) D A (cT g σ) 75 8 [(0, .ref (g.1 (4 * w0))), (1, .ref (g.1 (4 * w1))), (2, .int i2), (3, .int i3), (4, .int i4), (5, .int i5), (6, .int i6)] := by
  obtain ⟨hx, hb, hml, hown, hts, hK, hlk⟩ := id X
  intro i2 i3 i4 i5 i6 σ h H locs ls hw hS hl
  unfold wpX3_join_75 at h
  refine lv_iload hx hb dX3_join_75 (lv_at hl 5 rfl) ?_
  refine lv_iload hx hb dX3_join_77 (lv_at hl 6 rfl) ?_
  refine lv_iadd hx hb dX3_join_79 ?_
  refine lv_iload_n hx hb dX3_join_80 rfl (lv_at hl 3 rfl) ?_
  refine lv_iadd hx hb dX3_join_81 ?_
  refine lv_topi (fun a1 ea1 => ?_)
  replace h := h a1 ea1
  refine lv_istore (lv' := [(7, .int a1), (0, .ref (g.1 (4 * w0))), (1, .ref (g.1 (4 * w1))), (2, .int i2), (3, .int i3), (4, .int i4), (5, .int i5), (6, .int i6)]) hx hb dX3_join_82 hl (by decide) rfl (fun ls hl => ?_)
  refine lv_aload_n hx hb dX3_join_84 rfl (lv_at hl 1 rfl) ?_
  refine m_get (v := .ref (g.1 (4 * w0 + 1))) X hw (tW hw0) rfl inA_X3 0 (by decide) mw_36 rfl dX3_join_85 ?_
  refine lv_iload hx hb dX3_join_88 (lv_at hl 5 rfl) ?_
  refine lv_iload hx hb dX3_join_90 (lv_at hl 0 rfl) ?_
  refine lv_ldc (v := (2147483647 : Int32)) hx hb hown (hts _ mw_208) dX3_join_92 ?_
  refine lv_iand hx hb dX3_join_94 ?_
  obtain ⟨hi, h⟩ := h
  refine m_iast (T' := cT g (sFi σ w0 i4 (a1 &&& (2147483647 : Int32)))) X hw hS (tD hw0) 0 rfl hi (uF hg) dX3_join_95 (fun H locs hw hS => ?_)
  refine lv_iload hx hb dX3_join_96 (lv_at hl 0 rfl) ?_
  refine lv_bipush (v := (31 : Int32)) hx hb dX3_join_98 (by decide) ?_
  refine lv_iushr (v := jushr a1 (31 : Int32)) hx hb dX3_join_100 rfl ?_
  refine lv_topi (fun a2 ea2 => ?_)
  replace h := h a2 ea2
  refine lv_istore_n (lv' := [(3, .int a2), (7, .int a1), (0, .ref (g.1 (4 * w0))), (1, .ref (g.1 (4 * w1))), (2, .int i2), (4, .int i4), (5, .int i5), (6, .int i6)]) hx hb dX3_join_101 rfl hl (by decide) rfl (fun ls hl => ?_)
  obtain ⟨a3, ea3⟩ : ∃ z : Int32, z = i4 + (1 : Int32) := ⟨_, rfl⟩
  replace h := h a3 ea3
  refine lv_iinc (v := a3) (lv' := [(4, .int a3), (3, .int a2), (7, .int a1), (0, .ref (g.1 (4 * w0))), (1, .ref (g.1 (4 * w1))), (2, .int i2), (5, .int i5), (6, .int i6)]) hx hb dX3_join_102 hl (k := 5) rfl (by rw [ea3]; rfl) (by decide) rfl (fun ls hl => ?_)
  refine lv_goto (tgt := 25) hx hb dX3_join_105 (by decide) ?_
  exact hN25 i2 a2 a3 _ h H locs ls hw hS (lv_sub hl [3, 4, 5, 1, 0] rfl)
def wpX3_join_53 (w0 : Nat) (w1 : Nat) (Q : CS → Prop) (N25 : Int32 → Int32 → Int32 → CS → Prop) (i2 : Int32) (i3 : Int32) (i4 : Int32) (i5 : Int32) (σ : CS) : Prop :=
  ((cS σ w1) ≤ i4 →
    wpX3_join_75 w0 w1 Q N25 i2 i3 i4 i5 (0 : Int32) σ) ∧
  (¬ (cS σ w1) ≤ i4 →
    vp_in i4 (capW w1) ∧ (
    ∀ a4 : Int32, a4 = cF σ w1 i4.toNatClampNeg →
    wpX3_join_75 w0 w1 Q N25 i2 i3 i4 i5 a4 σ))
set_option maxRecDepth 100000 in
set_option maxHeartbeats 4000000 in
theorem wX3_join_53 {p : Program} {l : Launch} {e : Env} {s : State} {m : MethodId} {args : Array Value} {below : List Frame} {meth : Method} {c : Code} {D : va_G} {A : Nat → Prop} {g : mG} (hg : inj g) {w0 : Nat} {w1 : Nat} (hw0 : okW w0) (hw1 : okW w1) (X : cx p m meth c s args cX3_join 8 RX3 D (tyG g)) (hr : meth.sig.returnType = none) {Q : CS → Prop} {N25 : Int32 → Int32 → Int32 → CS → Prop} (hN25 : ∀ (i2 : Int32) (i3 : Int32) (i4 : Int32) (σ : CS), N25 i2 i3 i4 σ → cW p l e rmX3_join s m args below meth c (MQ below (va_Qv Q (fun u t => wd D A (cT g u) t.heap) A) args s 0 0 A) D A (cT g σ) 25 8 [(0, .ref (g.1 (4 * w0))), (1, .ref (g.1 (4 * w1))), (2, .int i2), (3, .int i3), (4, .int i4)]) : ∀ (i2 : Int32) (i3 : Int32) (i4 : Int32) (i5 : Int32) (σ : CS), wpX3_join_53 w0 w1 Q N25 i2 i3 i4 i5 σ → cW p l e rmX3_join s m args below meth c (MQ below (va_Qv Q (fun u t => wd D A (cT g u) t.heap) A) args s 0 0 A) D A (cT g σ) 53 8 [(0, .ref (g.1 (4 * w0))), (1, .ref (g.1 (4 * w1))), (2, .int i2), (3, .int i3), (4, .int i4), (5, .int i5)] := by
  obtain ⟨hx, hb, hml, hown, hts, hK, hlk⟩ := id X
  intro i2 i3 i4 i5 σ h H locs ls hw hS hl
  unfold wpX3_join_53 at h
  refine lv_iload hx hb dX3_join_53 (lv_at hl 4 rfl) ?_
  refine lv_aload_n hx hb dX3_join_55 rfl (lv_at hl 1 rfl) ?_
  refine m_get (v := .int (cS σ w1)) X hw (tW hw1) rfl inA_X3 1 (by decide) mw_100 rfl dX3_join_56 ?_
  refine lv_icmp_ge (tgt := 72) hx hb dX3_join_59 (by decide) (fun hc => ?_) (fun hc => ?_)
  · replace h := h.1 hc
    refine lv_iconst (v := (0 : Int32)) hx hb dX3_join_72 (by decide) ?_
    refine lv_istore (lv' := [(6, .int (0 : Int32)), (0, .ref (g.1 (4 * w0))), (1, .ref (g.1 (4 * w1))), (2, .int i2), (3, .int i3), (4, .int i4), (5, .int i5)]) hx hb dX3_join_73 hl (by decide) rfl (fun ls hl => ?_)
    exact wX3_join_75 hg hw0 hw1 X hr hN25 i2 i3 i4 i5 (0 : Int32) _ h H locs ls hw hS (lv_sub hl [1, 2, 3, 4, 5, 6, 0] rfl)
  · replace h := h.2 hc
    refine lv_aload_n hx hb dX3_join_62 rfl (lv_at hl 1 rfl) ?_
    refine m_get (v := .ref (g.1 (4 * w1 + 1))) X hw (tW hw1) rfl inA_X3 0 (by decide) mw_36 rfl dX3_join_63 ?_
    refine lv_iload hx hb dX3_join_66 (lv_at hl 4 rfl) ?_
    obtain ⟨hi, h⟩ := h
    refine m_iald X hw (tD hw1) 0 rfl hi dX3_join_68 ?_
    refine lv_goto (tgt := 73) hx hb dX3_join_69 (by decide) ?_
    refine lv_topi (fun a4 ea4 => ?_)
    replace h := h a4 ea4
    refine lv_istore (lv' := [(6, .int a4), (0, .ref (g.1 (4 * w0))), (1, .ref (g.1 (4 * w1))), (2, .int i2), (3, .int i3), (4, .int i4), (5, .int i5)]) hx hb dX3_join_73 hl (by decide) rfl (fun ls hl => ?_)
    exact wX3_join_75 hg hw0 hw1 X hr hN25 i2 i3 i4 i5 a4 _ h H locs ls hw hS (lv_sub hl [1, 2, 3, 4, 5, 6, 0] rfl)
def wbX3_join_25 (w0 : Nat) (w1 : Nat) (Q : CS → Prop) (N25 : Int32 → Int32 → Int32 → CS → Prop) (i2 : Int32) (i3 : Int32) (i4 : Int32) (σ : CS) : Prop :=
  (i2 ≤ i4 →
    (i3 = 0 →
      Q (sS σ w0 i2)) ∧
    (¬ i3 = 0 →
      ((Int32.ofNat (capW w0)) ≤ (cS (sS σ w0 i2) w0) →
        Q (sS σ w0 i2)) ∧
      (¬ (Int32.ofNat (capW w0)) ≤ (cS (sS σ w0 i2) w0) →
        vp_in (cS (sS σ w0 i2) w0) (capW w0) ∧ (
        Q (sS (sFi (sS σ w0 i2) w0 (cS (sS σ w0 i2) w0) i3) w0 ((cS (sFi (sS σ w0 i2) w0 (cS (sS σ w0 i2) w0) i3) w0) + (1 : Int32))))))) ∧
  (¬ i2 ≤ i4 →
    ((cS σ w0) ≤ i4 →
      wpX3_join_53 w0 w1 Q N25 i2 i3 i4 (0 : Int32) σ) ∧
    (¬ (cS σ w0) ≤ i4 →
      vp_in i4 (capW w0) ∧ (
      ∀ a5 : Int32, a5 = cF σ w0 i4.toNatClampNeg →
      wpX3_join_53 w0 w1 Q N25 i2 i3 i4 a5 σ)))
set_option maxRecDepth 100000 in
set_option maxHeartbeats 4000000 in
theorem wX3_join_25 {p : Program} {l : Launch} {e : Env} {s : State} {m : MethodId} {args : Array Value} {below : List Frame} {meth : Method} {c : Code} {D : va_G} {A : Nat → Prop} {g : mG} (hg : inj g) {w0 : Nat} {w1 : Nat} (hw0 : okW w0) (hw1 : okW w1) (X : cx p m meth c s args cX3_join 8 RX3 D (tyG g)) (hr : meth.sig.returnType = none) {Q : CS → Prop} : ∀ (n : Nat) (i2 : Int32) (i3 : Int32) (i4 : Int32) (σ : CS), lq4 (wbX3_join_25 w0 w1 Q) n i2 i3 i4 σ → cW p l e rmX3_join s m args below meth c (MQ below (va_Qv Q (fun u t => wd D A (cT g u) t.heap) A) args s 0 0 A) D A (cT g σ) 25 8 [(0, .ref (g.1 (4 * w0))), (1, .ref (g.1 (4 * w1))), (2, .int i2), (3, .int i3), (4, .int i4)] := by
  obtain ⟨hx, hb, hml, hown, hts, hK, hlk⟩ := id X
  intro n
  induction n with
  | zero =>
    intro i2 i3 i4 σ h
    exact h.elim
  | succ n hN25 =>
    intro i2 i3 i4 σ h H locs ls hw hS hl
    replace h : wbX3_join_25 w0 w1 Q (lq4 (wbX3_join_25 w0 w1 Q) n) i2 i3 i4 σ := h
    unfold wbX3_join_25 at h
    refine lv_iload hx hb dX3_join_25 (lv_at hl 4 rfl) ?_
    refine lv_iload_n hx hb dX3_join_27 rfl (lv_at hl 2 rfl) ?_
    refine lv_icmp_ge (tgt := 108) hx hb dX3_join_28 (by decide) (fun hc => ?_) (fun hc => ?_)
    · replace h := h.1 hc
      refine lv_aload_n hx hb dX3_join_108 rfl (lv_at hl 0 rfl) ?_
      refine lv_iload_n hx hb dX3_join_109 rfl (lv_at hl 2 rfl) ?_
      refine m_put (T' := cT g (sS σ w0 i2)) X hw hS (tW hw0) rfl inA_X3 tyX3 tyX3_ok nmX3 1 (by decide) mw_100 rfl pd_I (Nat.le_of_ble_eq_true rfl) (uS hg) dX3_join_110 (fun H locs hw hS => ?_)
      refine lv_iload_n hx hb dX3_join_113 rfl (lv_at hl 3 rfl) ?_
      refine lv_if_eq (tgt := 149) hx hb dX3_join_114 (by decide) (fun hc => ?_) (fun hc => ?_)
      · replace h := h.1 hc
        exact m_vret X hr hw hS h dX3_join_149
      · replace h := h.2 hc
        refine lv_aload_n hx hb dX3_join_117 rfl (lv_at hl 0 rfl) ?_
        refine m_get (v := .int (cS (sS σ w0 i2) w0)) X hw (tW hw0) rfl inA_X3 1 (by decide) mw_100 rfl dX3_join_118 ?_
        refine lv_aload_n hx hb dX3_join_121 rfl (lv_at hl 0 rfl) ?_
        refine m_get (v := .ref (g.1 (4 * w0 + 1))) X hw (tW hw0) rfl inA_X3 0 (by decide) mw_36 rfl dX3_join_122 ?_
        refine m_alen (v := Int32.ofNat (capW w0)) X hw (tD hw0) 0 rfl rfl dX3_join_125 ?_
        refine lv_icmp_ge (tgt := 149) hx hb dX3_join_126 (by decide) (fun hc => ?_) (fun hc => ?_)
        · replace h := h.1 hc
          exact m_vret X hr hw hS h dX3_join_149
        · replace h := h.2 hc
          refine lv_aload_n hx hb dX3_join_129 rfl (lv_at hl 0 rfl) ?_
          refine m_get (v := .ref (g.1 (4 * w0 + 1))) X hw (tW hw0) rfl inA_X3 0 (by decide) mw_36 rfl dX3_join_130 ?_
          refine lv_aload_n hx hb dX3_join_133 rfl (lv_at hl 0 rfl) ?_
          refine m_get (v := .int (cS (sS σ w0 i2) w0)) X hw (tW hw0) rfl inA_X3 1 (by decide) mw_100 rfl dX3_join_134 ?_
          refine lv_iload_n hx hb dX3_join_137 rfl (lv_at hl 3 rfl) ?_
          obtain ⟨hi, h⟩ := h
          refine m_iast (T' := cT g (sFi (sS σ w0 i2) w0 (cS (sS σ w0 i2) w0) i3)) X hw hS (tD hw0) 0 rfl hi (uF hg) dX3_join_138 (fun H locs hw hS => ?_)
          refine lv_aload_n hx hb dX3_join_139 rfl (lv_at hl 0 rfl) ?_
          refine lv_dup hx hb dX3_join_140 rfl ?_
          refine m_get (v := .int (cS (sFi (sS σ w0 i2) w0 (cS (sS σ w0 i2) w0) i3) w0)) X hw (tW hw0) rfl inA_X3 1 (by decide) mw_100 rfl dX3_join_141 ?_
          refine lv_iconst (v := (1 : Int32)) hx hb dX3_join_144 (by decide) ?_
          refine lv_iadd hx hb dX3_join_145 ?_
          refine m_put (T' := cT g (sS (sFi (sS σ w0 i2) w0 (cS (sS σ w0 i2) w0) i3) w0 ((cS (sFi (sS σ w0 i2) w0 (cS (sS σ w0 i2) w0) i3) w0) + (1 : Int32)))) X hw hS (tW hw0) rfl inA_X3 tyX3 tyX3_ok nmX3 1 (by decide) mw_100 rfl pd_I (Nat.le_of_ble_eq_true rfl) (uS hg) dX3_join_146 (fun H locs hw hS => ?_)
          exact m_vret X hr hw hS h dX3_join_149
    · replace h := h.2 hc
      refine lv_iload hx hb dX3_join_31 (lv_at hl 4 rfl) ?_
      refine lv_aload_n hx hb dX3_join_33 rfl (lv_at hl 0 rfl) ?_
      refine m_get (v := .int (cS σ w0)) X hw (tW hw0) rfl inA_X3 1 (by decide) mw_100 rfl dX3_join_34 ?_
      refine lv_icmp_ge (tgt := 50) hx hb dX3_join_37 (by decide) (fun hc => ?_) (fun hc => ?_)
      · replace h := h.1 hc
        refine lv_iconst (v := (0 : Int32)) hx hb dX3_join_50 (by decide) ?_
        refine lv_istore (lv' := [(5, .int (0 : Int32)), (0, .ref (g.1 (4 * w0))), (1, .ref (g.1 (4 * w1))), (2, .int i2), (3, .int i3), (4, .int i4)]) hx hb dX3_join_51 hl (by decide) rfl (fun ls hl => ?_)
        exact wX3_join_53 hg hw0 hw1 X hr hN25 i2 i3 i4 (0 : Int32) _ h H locs ls hw hS (lv_sub hl [1, 2, 3, 4, 5, 0] rfl)
      · replace h := h.2 hc
        refine lv_aload_n hx hb dX3_join_40 rfl (lv_at hl 0 rfl) ?_
        refine m_get (v := .ref (g.1 (4 * w0 + 1))) X hw (tW hw0) rfl inA_X3 0 (by decide) mw_36 rfl dX3_join_41 ?_
        refine lv_iload hx hb dX3_join_44 (lv_at hl 4 rfl) ?_
        obtain ⟨hi, h⟩ := h
        refine m_iald X hw (tD hw0) 0 rfl hi dX3_join_46 ?_
        refine lv_goto (tgt := 51) hx hb dX3_join_47 (by decide) ?_
        refine lv_topi (fun a5 ea5 => ?_)
        replace h := h a5 ea5
        refine lv_istore (lv' := [(5, .int a5), (0, .ref (g.1 (4 * w0))), (1, .ref (g.1 (4 * w1))), (2, .int i2), (3, .int i3), (4, .int i4)]) hx hb dX3_join_51 hl (by decide) rfl (fun ls hl => ?_)
        exact wX3_join_53 hg hw0 hw1 X hr hN25 i2 i3 i4 a5 _ h H locs ls hw hS (lv_sub hl [1, 2, 3, 4, 5, 0] rfl)
def wpX3_join_0 (w0 : Nat) (w1 : Nat) (Q : CS → Prop) (σ : CS) : Prop :=
  ∀ a6 : Int32, a6 = (if (cS σ w0) < (cS σ w1) then (cS σ w1) else (cS σ w0)) →
  ∀ a7 : Int32, a7 = (if (Int32.ofNat (capW w0)) < a6 then (Int32.ofNat (capW w0)) else a6) →
  ∃ n, lq4 (wbX3_join_25 w0 w1 Q) n a7 (0 : Int32) (0 : Int32) σ
set_option maxRecDepth 100000 in
set_option maxHeartbeats 4000000 in
theorem wX3_join_0 {p : Program} {l : Launch} {e : Env} {s : State} {m : MethodId} {args : Array Value} {below : List Frame} {meth : Method} {c : Code} {D : va_G} {A : Nat → Prop} {g : mG} (hg : inj g) {w0 : Nat} {w1 : Nat} (hw0 : okW w0) (hw1 : okW w1) (X : cx p m meth c s args cX3_join 8 RX3 D (tyG g)) (hr : meth.sig.returnType = none) {Q : CS → Prop} : ∀ (σ : CS), wpX3_join_0 w0 w1 Q σ → cW p l e rmX3_join s m args below meth c (MQ below (va_Qv Q (fun u t => wd D A (cT g u) t.heap) A) args s 0 0 A) D A (cT g σ) 0 8 [(0, .ref (g.1 (4 * w0))), (1, .ref (g.1 (4 * w1)))] := by
  obtain ⟨hx, hb, hml, hown, hts, hK, hlk⟩ := id X
  intro σ h H locs ls hw hS hl
  unfold wpX3_join_0 at h
  refine lv_aload_n hx hb dX3_join_0 rfl (lv_at hl 0 rfl) ?_
  refine m_get (v := .int (cS σ w0)) X hw (tW hw0) rfl inA_X3 1 (by decide) mw_100 rfl dX3_join_1 ?_
  refine lv_aload_n hx hb dX3_join_4 rfl (lv_at hl 1 rfl) ?_
  refine m_get (v := .int (cS σ w1)) X hw (tW hw1) rfl inA_X3 1 (by decide) mw_100 rfl dX3_join_5 ?_
  refine va_mmax hx hb (hml.trans hl.1.symm) hown (hts _ mw_205) (hts _ mw_206) (hts _ mw_54) (hts _ mw_207) (Nat.le_of_ble_eq_true rfl) (Nat.le_of_ble_eq_true rfl) (Nat.zero_le _) (Nat.zero_le _) dX3_join_8 ?_
  refine lv_topi (fun a6 ea6 => ?_)
  replace h := h a6 ea6
  refine lv_aload_n hx hb dX3_join_11 rfl (lv_at hl 0 rfl) ?_
  refine m_get (v := .ref (g.1 (4 * w0 + 1))) X hw (tW hw0) rfl inA_X3 0 (by decide) mw_36 rfl dX3_join_12 ?_
  refine m_alen (v := Int32.ofNat (capW w0)) X hw (tD hw0) 0 rfl rfl dX3_join_15 ?_
  refine va_mmin hx hb (hml.trans hl.1.symm) hown (hts _ mw_186) (hts _ mw_53) (hts _ mw_54) (hts _ mw_55) (Nat.le_of_ble_eq_true rfl) (Nat.le_of_ble_eq_true rfl) (Nat.zero_le _) (Nat.zero_le _) dX3_join_16 ?_
  refine lv_topi (fun a7 ea7 => ?_)
  replace h := h a7 ea7
  refine lv_istore_n (lv' := [(2, .int a7), (0, .ref (g.1 (4 * w0))), (1, .ref (g.1 (4 * w1)))]) hx hb dX3_join_19 rfl hl (by decide) rfl (fun ls hl => ?_)
  refine lv_iconst (v := (0 : Int32)) hx hb dX3_join_20 (by decide) ?_
  refine lv_istore_n (lv' := [(3, .int (0 : Int32)), (2, .int a7), (0, .ref (g.1 (4 * w0))), (1, .ref (g.1 (4 * w1)))]) hx hb dX3_join_21 rfl hl (by decide) rfl (fun ls hl => ?_)
  refine lv_iconst (v := (0 : Int32)) hx hb dX3_join_22 (by decide) ?_
  refine lv_istore (lv' := [(4, .int (0 : Int32)), (3, .int (0 : Int32)), (2, .int a7), (0, .ref (g.1 (4 * w0))), (1, .ref (g.1 (4 * w1)))]) hx hb dX3_join_23 hl (by decide) rfl (fun ls hl => ?_)
  obtain ⟨n9, h⟩ := h
  exact wX3_join_25 hg hw0 hw1 X hr n9 a7 (0 : Int32) (0 : Int32) _ h H locs ls hw hS (lv_sub hl [3, 4, 2, 1, 0] rfl)
def wpX3_join (w0 : Nat) (w1 : Nat) (σ : CS) (Q : CS → Prop) : Prop := wpX3_join_0 w0 w1 Q σ
theorem kX3_join {l : Launch} {D : va_G} {A : Nat → Prop} {g : mG} (hg : inj g) {w0 : Nat} {w1 : Nat} (hw0 : okW w0) (hw1 : okW w1) {σ : CS} {Q : CS → Prop} (h : wpX3_join w0 w1 σ Q) : Met l yX3_join (Cond.code yX3_join cX3_join 8 none :: wsA) rmX3_join (mPc D (tyG g) A (cT g σ) [.ref (g.1 (4 * w0)), .ref (g.1 (4 * w1))]) (va_Qv Q (fun u t => wd D A (cT g u) t.heap) A) 0 0 A :=
  m_met (by decide +kernel) (Nat.le_of_ble_eq_true rfl) (fun p e s m below meth c X hr H locs ls hw hS hl => wX3_join_0 hg hw0 hw1 X hr σ h H locs ls hw hS (lv_sub hl [0, 1] rfl))
theorem fX3_join : vfit yX3_join cX3_join 8 none 1 := ⟨mw_202, mw_203, mw_29, mw_204, by decide +kernel, by decide +kernel, by decide +kernel⟩
/-! BigPolys$Whole.differ(LBigPolys$Whole;LBigPolys$Whole;)V -/
def rmX3_differ : Room := { frames := 1, cells := 0, slots := 0, locals := 24 }
def wpX3_differ_47 (w0 : Nat) (w1 : Nat) (w2 : Nat) (Q : CS → Prop) (N19 : Int32 → Int32 → Int32 → CS → Prop) (i3 : Int32) (i4 : Int32) (i5 : Int32) (i6 : Int32) (σ : CS) : Prop :=
  vp_in i5 (capW w1) ∧ (
  ∀ a1 : Int32, a1 = ((cF σ w1 i5.toNatClampNeg) - i6) - i4 →
  vp_in i5 (capW w0) ∧ (
  ∀ a2 : Int32, a2 = jushr a1 (31 : Int32) →
  ∀ a3 : Int32, a3 = i5 + (1 : Int32) →
  N19 i3 a2 a3 (sFi σ w0 i5 (a1 &&& (2147483647 : Int32)))))
set_option maxRecDepth 100000 in
set_option maxHeartbeats 4000000 in
theorem wX3_differ_47 {p : Program} {l : Launch} {e : Env} {s : State} {m : MethodId} {args : Array Value} {below : List Frame} {meth : Method} {c : Code} {D : va_G} {A : Nat → Prop} {g : mG} (hg : inj g) {w0 : Nat} {w1 : Nat} {w2 : Nat} (hw0 : okW w0) (hw1 : okW w1) (hw2 : okW w2) (X : cx p m meth c s args cX3_differ 8 RX3 D (tyG g)) (hr : meth.sig.returnType = none) {Q : CS → Prop} {N19 : Int32 → Int32 → Int32 → CS → Prop} (hN19 : ∀ (i3 : Int32) (i4 : Int32) (i5 : Int32) (σ : CS), N19 i3 i4 i5 σ → cW p l e rmX3_differ s m args below meth c (MQ below (va_Qv Q (fun u t => wd D A (cT g u) t.heap) A) args s 0 0 A) D A (cT g σ) 19 8 [(0, .ref (g.1 (4 * w0))), (1, .ref (g.1 (4 * w1))), (2, .ref (g.1 (4 * w2))), (3, .int i3), (4, .int i4), (5, .int i5)]) : ∀ (i3 : Int32) (i4 : Int32) (i5 : Int32) (i6 : Int32) (σ : CS), wpX3_differ_47 w0 w1 w2 Q N19 i3 i4 i5 i6 σ → cW p l e rmX3_differ s m args below meth c (MQ below (va_Qv Q (fun u t => wd D A (cT g u) t.heap) A) args s 0 0 A) D A (cT g σ) 47 8 [(0, .ref (g.1 (4 * w0))), (1, .ref (g.1 (4 * w1))), (2, .ref (g.1 (4 * w2))), (3, .int i3), (4, .int i4), (5, .int i5), (6, .int i6)] := by
  obtain ⟨hx, hb, hml, hown, hts, hK, hlk⟩ := id X
  intro i3 i4 i5 i6 σ h H locs ls hw hS hl
  unfold wpX3_differ_47 at h
  refine lv_aload_n hx hb dX3_differ_47 rfl (lv_at hl 1 rfl) ?_
  refine m_get (v := .ref (g.1 (4 * w1 + 1))) X hw (tW hw1) rfl inA_X3 0 (by decide) mw_36 rfl dX3_differ_48 ?_
  refine lv_iload hx hb dX3_differ_51 (lv_at hl 5 rfl) ?_
  obtain ⟨hi, h⟩ := h
  refine m_iald X hw (tD hw1) 0 rfl hi dX3_differ_53 ?_
  refine lv_iload hx hb dX3_differ_54 (lv_at hl 6 rfl) ?_
  refine lv_isub hx hb dX3_differ_56 ?_
  refine lv_iload hx hb dX3_differ_57 (lv_at hl 4 rfl) ?_
  refine lv_isub hx hb dX3_differ_59 ?_
  refine lv_topi (fun a1 ea1 => ?_)
  replace h := h a1 ea1
  refine lv_istore (lv' := [(7, .int a1), (0, .ref (g.1 (4 * w0))), (1, .ref (g.1 (4 * w1))), (2, .ref (g.1 (4 * w2))), (3, .int i3), (4, .int i4), (5, .int i5), (6, .int i6)]) hx hb dX3_differ_60 hl (by decide) rfl (fun ls hl => ?_)
  refine lv_aload_n hx hb dX3_differ_62 rfl (lv_at hl 1 rfl) ?_
  refine m_get (v := .ref (g.1 (4 * w0 + 1))) X hw (tW hw0) rfl inA_X3 0 (by decide) mw_36 rfl dX3_differ_63 ?_
  refine lv_iload hx hb dX3_differ_66 (lv_at hl 6 rfl) ?_
  refine lv_iload hx hb dX3_differ_68 (lv_at hl 0 rfl) ?_
  refine lv_ldc (v := (2147483647 : Int32)) hx hb hown (hts _ mw_208) dX3_differ_70 ?_
  refine lv_iand hx hb dX3_differ_72 ?_
  obtain ⟨hi, h⟩ := h
  refine m_iast (T' := cT g (sFi σ w0 i5 (a1 &&& (2147483647 : Int32)))) X hw hS (tD hw0) 0 rfl hi (uF hg) dX3_differ_73 (fun H locs hw hS => ?_)
  refine lv_iload hx hb dX3_differ_74 (lv_at hl 0 rfl) ?_
  refine lv_bipush (v := (31 : Int32)) hx hb dX3_differ_76 (by decide) ?_
  refine lv_iushr (v := jushr a1 (31 : Int32)) hx hb dX3_differ_78 rfl ?_
  refine lv_topi (fun a2 ea2 => ?_)
  replace h := h a2 ea2
  refine lv_istore (lv' := [(4, .int a2), (7, .int a1), (0, .ref (g.1 (4 * w0))), (1, .ref (g.1 (4 * w1))), (2, .ref (g.1 (4 * w2))), (3, .int i3), (5, .int i5), (6, .int i6)]) hx hb dX3_differ_79 hl (by decide) rfl (fun ls hl => ?_)
  obtain ⟨a3, ea3⟩ : ∃ z : Int32, z = i5 + (1 : Int32) := ⟨_, rfl⟩
  replace h := h a3 ea3
  refine lv_iinc (v := a3) (lv' := [(5, .int a3), (4, .int a2), (7, .int a1), (0, .ref (g.1 (4 * w0))), (1, .ref (g.1 (4 * w1))), (2, .ref (g.1 (4 * w2))), (3, .int i3), (6, .int i6)]) hx hb dX3_differ_81 hl (k := 6) rfl (by rw [ea3]; rfl) (by decide) rfl (fun ls hl => ?_)
  refine lv_goto (tgt := 19) hx hb dX3_differ_84 (by decide) ?_
  exact hN19 i3 a2 a3 _ h H locs ls hw hS (lv_sub hl [3, 4, 5, 6, 1, 0] rfl)
def wbX3_differ_19 (w0 : Nat) (w1 : Nat) (w2 : Nat) (Q : CS → Prop) (N19 : Int32 → Int32 → Int32 → CS → Prop) (i3 : Int32) (i4 : Int32) (i5 : Int32) (σ : CS) : Prop :=
  (i3 ≤ i5 →
    Q (sS σ w0 i3)) ∧
  (¬ i3 ≤ i5 →
    ((cS σ w2) ≤ i5 →
      wpX3_differ_47 w0 w1 w2 Q N19 i3 i4 i5 (0 : Int32) σ) ∧
    (¬ (cS σ w2) ≤ i5 →
      vp_in i5 (capW w2) ∧ (
      ∀ a4 : Int32, a4 = cF σ w2 i5.toNatClampNeg →
      wpX3_differ_47 w0 w1 w2 Q N19 i3 i4 i5 a4 σ)))
set_option maxRecDepth 100000 in
set_option maxHeartbeats 4000000 in
theorem wX3_differ_19 {p : Program} {l : Launch} {e : Env} {s : State} {m : MethodId} {args : Array Value} {below : List Frame} {meth : Method} {c : Code} {D : va_G} {A : Nat → Prop} {g : mG} (hg : inj g) {w0 : Nat} {w1 : Nat} {w2 : Nat} (hw0 : okW w0) (hw1 : okW w1) (hw2 : okW w2) (X : cx p m meth c s args cX3_differ 8 RX3 D (tyG g)) (hr : meth.sig.returnType = none) {Q : CS → Prop} : ∀ (n : Nat) (i3 : Int32) (i4 : Int32) (i5 : Int32) (σ : CS), lq4 (wbX3_differ_19 w0 w1 w2 Q) n i3 i4 i5 σ → cW p l e rmX3_differ s m args below meth c (MQ below (va_Qv Q (fun u t => wd D A (cT g u) t.heap) A) args s 0 0 A) D A (cT g σ) 19 8 [(0, .ref (g.1 (4 * w0))), (1, .ref (g.1 (4 * w1))), (2, .ref (g.1 (4 * w2))), (3, .int i3), (4, .int i4), (5, .int i5)] := by
  obtain ⟨hx, hb, hml, hown, hts, hK, hlk⟩ := id X
  intro n
  induction n with
  | zero =>
    intro i3 i4 i5 σ h
    exact h.elim
  | succ n hN19 =>
    intro i3 i4 i5 σ h H locs ls hw hS hl
    replace h : wbX3_differ_19 w0 w1 w2 Q (lq4 (wbX3_differ_19 w0 w1 w2 Q) n) i3 i4 i5 σ := h
    unfold wbX3_differ_19 at h
    refine lv_iload hx hb dX3_differ_19 (lv_at hl 5 rfl) ?_
    refine lv_iload_n hx hb dX3_differ_21 rfl (lv_at hl 3 rfl) ?_
    refine lv_icmp_ge (tgt := 87) hx hb dX3_differ_22 (by decide) (fun hc => ?_) (fun hc => ?_)
    · replace h := h.1 hc
      refine lv_aload_n hx hb dX3_differ_87 rfl (lv_at hl 0 rfl) ?_
      refine lv_iload_n hx hb dX3_differ_88 rfl (lv_at hl 3 rfl) ?_
      refine m_put (T' := cT g (sS σ w0 i3)) X hw hS (tW hw0) rfl inA_X3 tyX3 tyX3_ok nmX3 1 (by decide) mw_100 rfl pd_I (Nat.le_of_ble_eq_true rfl) (uS hg) dX3_differ_89 (fun H locs hw hS => ?_)
      exact m_vret X hr hw hS h dX3_differ_92
    · replace h := h.2 hc
      refine lv_iload hx hb dX3_differ_25 (lv_at hl 5 rfl) ?_
      refine lv_aload_n hx hb dX3_differ_27 rfl (lv_at hl 2 rfl) ?_
      refine m_get (v := .int (cS σ w2)) X hw (tW hw2) rfl inA_X3 1 (by decide) mw_100 rfl dX3_differ_28 ?_
      refine lv_icmp_ge (tgt := 44) hx hb dX3_differ_31 (by decide) (fun hc => ?_) (fun hc => ?_)
      · replace h := h.1 hc
        refine lv_iconst (v := (0 : Int32)) hx hb dX3_differ_44 (by decide) ?_
        refine lv_istore (lv' := [(6, .int (0 : Int32)), (0, .ref (g.1 (4 * w0))), (1, .ref (g.1 (4 * w1))), (2, .ref (g.1 (4 * w2))), (3, .int i3), (4, .int i4), (5, .int i5)]) hx hb dX3_differ_45 hl (by decide) rfl (fun ls hl => ?_)
        exact wX3_differ_47 hg hw0 hw1 hw2 X hr hN19 i3 i4 i5 (0 : Int32) _ h H locs ls hw hS (lv_sub hl [1, 2, 3, 4, 5, 6, 0] rfl)
      · replace h := h.2 hc
        refine lv_aload_n hx hb dX3_differ_34 rfl (lv_at hl 2 rfl) ?_
        refine m_get (v := .ref (g.1 (4 * w2 + 1))) X hw (tW hw2) rfl inA_X3 0 (by decide) mw_36 rfl dX3_differ_35 ?_
        refine lv_iload hx hb dX3_differ_38 (lv_at hl 5 rfl) ?_
        obtain ⟨hi, h⟩ := h
        refine m_iald X hw (tD hw2) 0 rfl hi dX3_differ_40 ?_
        refine lv_goto (tgt := 45) hx hb dX3_differ_41 (by decide) ?_
        refine lv_topi (fun a4 ea4 => ?_)
        replace h := h a4 ea4
        refine lv_istore (lv' := [(6, .int a4), (0, .ref (g.1 (4 * w0))), (1, .ref (g.1 (4 * w1))), (2, .ref (g.1 (4 * w2))), (3, .int i3), (4, .int i4), (5, .int i5)]) hx hb dX3_differ_45 hl (by decide) rfl (fun ls hl => ?_)
        exact wX3_differ_47 hg hw0 hw1 hw2 X hr hN19 i3 i4 i5 a4 _ h H locs ls hw hS (lv_sub hl [1, 2, 3, 4, 5, 6, 0] rfl)
def wpX3_differ_0 (w0 : Nat) (w1 : Nat) (w2 : Nat) (Q : CS → Prop) (σ : CS) : Prop :=
  ∀ a5 : Int32, a5 = (if (Int32.ofNat (capW w0)) < (cS σ w1) then (Int32.ofNat (capW w0)) else (cS σ w1)) →
  ∃ n, lq4 (wbX3_differ_19 w0 w1 w2 Q) n a5 (0 : Int32) (0 : Int32) σ
set_option maxRecDepth 100000 in
set_option maxHeartbeats 4000000 in
theorem wX3_differ_0 {p : Program} {l : Launch} {e : Env} {s : State} {m : MethodId} {args : Array Value} {below : List Frame} {meth : Method} {c : Code} {D : va_G} {A : Nat → Prop} {g : mG} (hg : inj g) {w0 : Nat} {w1 : Nat} {w2 : Nat} (hw0 : okW w0) (hw1 : okW w1) (hw2 : okW w2) (X : cx p m meth c s args cX3_differ 8 RX3 D (tyG g)) (hr : meth.sig.returnType = none) {Q : CS → Prop} : ∀ (σ : CS), wpX3_differ_0 w0 w1 w2 Q σ → cW p l e rmX3_differ s m args below meth c (MQ below (va_Qv Q (fun u t => wd D A (cT g u) t.heap) A) args s 0 0 A) D A (cT g σ) 0 8 [(0, .ref (g.1 (4 * w0))), (1, .ref (g.1 (4 * w1))), (2, .ref (g.1 (4 * w2)))] := by
  obtain ⟨hx, hb, hml, hown, hts, hK, hlk⟩ := id X
  intro σ h H locs ls hw hS hl
  unfold wpX3_differ_0 at h
  refine lv_aload_n hx hb dX3_differ_0 rfl (lv_at hl 1 rfl) ?_
  refine m_get (v := .int (cS σ w1)) X hw (tW hw1) rfl inA_X3 1 (by decide) mw_100 rfl dX3_differ_1 ?_
  refine lv_aload_n hx hb dX3_differ_4 rfl (lv_at hl 0 rfl) ?_
  refine m_get (v := .ref (g.1 (4 * w0 + 1))) X hw (tW hw0) rfl inA_X3 0 (by decide) mw_36 rfl dX3_differ_5 ?_
  refine m_alen (v := Int32.ofNat (capW w0)) X hw (tD hw0) 0 rfl rfl dX3_differ_8 ?_
  refine va_mmin hx hb (hml.trans hl.1.symm) hown (hts _ mw_186) (hts _ mw_53) (hts _ mw_54) (hts _ mw_55) (Nat.le_of_ble_eq_true rfl) (Nat.le_of_ble_eq_true rfl) (Nat.zero_le _) (Nat.zero_le _) dX3_differ_9 ?_
  refine lv_topi (fun a5 ea5 => ?_)
  replace h := h a5 ea5
  refine lv_istore_n (lv' := [(3, .int a5), (0, .ref (g.1 (4 * w0))), (1, .ref (g.1 (4 * w1))), (2, .ref (g.1 (4 * w2)))]) hx hb dX3_differ_12 rfl hl (by decide) rfl (fun ls hl => ?_)
  refine lv_iconst (v := (0 : Int32)) hx hb dX3_differ_13 (by decide) ?_
  refine lv_istore (lv' := [(4, .int (0 : Int32)), (3, .int a5), (0, .ref (g.1 (4 * w0))), (1, .ref (g.1 (4 * w1))), (2, .ref (g.1 (4 * w2)))]) hx hb dX3_differ_14 hl (by decide) rfl (fun ls hl => ?_)
  refine lv_iconst (v := (0 : Int32)) hx hb dX3_differ_16 (by decide) ?_
  refine lv_istore (lv' := [(5, .int (0 : Int32)), (4, .int (0 : Int32)), (3, .int a5), (0, .ref (g.1 (4 * w0))), (1, .ref (g.1 (4 * w1))), (2, .ref (g.1 (4 * w2)))]) hx hb dX3_differ_17 hl (by decide) rfl (fun ls hl => ?_)
  obtain ⟨n9, h⟩ := h
  exact wX3_differ_19 hg hw0 hw1 hw2 X hr n9 a5 (0 : Int32) (0 : Int32) _ h H locs ls hw hS (lv_sub hl [3, 4, 5, 2, 1, 0] rfl)
def wpX3_differ (w0 : Nat) (w1 : Nat) (w2 : Nat) (σ : CS) (Q : CS → Prop) : Prop := wpX3_differ_0 w0 w1 w2 Q σ
theorem kX3_differ {l : Launch} {D : va_G} {A : Nat → Prop} {g : mG} (hg : inj g) {w0 : Nat} {w1 : Nat} {w2 : Nat} (hw0 : okW w0) (hw1 : okW w1) (hw2 : okW w2) {σ : CS} {Q : CS → Prop} (h : wpX3_differ w0 w1 w2 σ Q) : Met l yX3_differ (Cond.code yX3_differ cX3_differ 8 none :: wsA) rmX3_differ (mPc D (tyG g) A (cT g σ) [.ref (g.1 (4 * w0)), .ref (g.1 (4 * w1)), .ref (g.1 (4 * w2))]) (va_Qv Q (fun u t => wd D A (cT g u) t.heap) A) 0 0 A :=
  m_met (by decide +kernel) (Nat.le_of_ble_eq_true rfl) (fun p e s m below meth c X hr H locs ls hw hS hl => wX3_differ_0 hg hw0 hw1 hw2 X hr σ h H locs ls hw hS (lv_sub hl [0, 1, 2] rfl))
theorem fX3_differ : vfit yX3_differ cX3_differ 8 none 2 := ⟨mw_214, mw_215, mw_29, mw_216, by decide +kernel, by decide +kernel, by decide +kernel⟩
/-! BigPolys$Whole.plus(LBigPolys$Whole;I)V -/
def rmX3_plus : Room := { frames := 2, cells := 0, slots := 0, locals := 51 }
def wpX3_plus_78 (w0 : Nat) (w1 : Nat) (x2 : Int32) (Q : CS → Prop) (σ : CS) : Prop :=
  wpX3_trim w0 σ (fun (σ2 : CS) =>
    Q σ2)
set_option maxRecDepth 100000 in
set_option maxHeartbeats 4000000 in
theorem wX3_plus_78 {p : Program} {l : Launch} {e : Env} {s : State} {m : MethodId} {args : Array Value} {below : List Frame} {meth : Method} {c : Code} {D : va_G} {A : Nat → Prop} {g : mG} (hg : inj g) {w0 : Nat} {w1 : Nat} {x2 : Int32} (hw0 : okW w0) (hw1 : okW w1) (X : cx p m meth c s args cX3_plus 4 RX3 D (tyG g)) (hr : meth.sig.returnType = none) {Q : CS → Prop} : ∀ (σ : CS), wpX3_plus_78 w0 w1 x2 Q σ → cW p l e rmX3_plus s m args below meth c (MQ below (va_Qv Q (fun u t => wd D A (cT g u) t.heap) A) args s 0 0 A) D A (cT g σ) 78 4 [(0, .ref (g.1 (4 * w0))), (1, .ref (g.1 (4 * w1))), (2, .int x2)] := by
  obtain ⟨hx, hb, hml, hown, hts, hK, hlk⟩ := id X
  intro σ h H locs ls hw hS hl
  unfold wpX3_plus_78 at h
  refine lv_aload_n hx hb dX3_plus_78 rfl (lv_at hl 0 rfl) ?_
  refine m_cVv (TT := cT g) (As := []) (rest := []) X hl.1 hw hS (kX3_trim hg hw0 h) mw_191 fX3_trim (tW hw0) rfl rfl ⟨rfl, rfl, Nat.le_of_ble_eq_true rfl, Nat.le_of_ble_eq_true rfl⟩ rfl rfl (Nat.le_of_ble_eq_true rfl) dX3_plus_79 (fun σ2 H locs h hw hS => ?_)
  exact m_vret X hr hw hS h dX3_plus_82
def wpX3_plus_37 (w0 : Nat) (w1 : Nat) (x2 : Int32) (Q : CS → Prop) (i3 : Int32) (σ : CS) : Prop :=
  wpX3_join w0 w1 (sG σ w0 i3) (fun (σ4 : CS) =>
    wpX3_plus_78 w0 w1 x2 Q σ4)
set_option maxRecDepth 100000 in
set_option maxHeartbeats 4000000 in
theorem wX3_plus_37 {p : Program} {l : Launch} {e : Env} {s : State} {m : MethodId} {args : Array Value} {below : List Frame} {meth : Method} {c : Code} {D : va_G} {A : Nat → Prop} {g : mG} (hg : inj g) {w0 : Nat} {w1 : Nat} {x2 : Int32} (hw0 : okW w0) (hw1 : okW w1) (X : cx p m meth c s args cX3_plus 4 RX3 D (tyG g)) (hr : meth.sig.returnType = none) {Q : CS → Prop} : ∀ (i3 : Int32) (σ : CS), wpX3_plus_37 w0 w1 x2 Q i3 σ → cW p l e rmX3_plus s m args below meth c (MQ below (va_Qv Q (fun u t => wd D A (cT g u) t.heap) A) args s 0 0 A) D A (cT g σ) 37 4 [(0, .ref (g.1 (4 * w0))), (1, .ref (g.1 (4 * w1))), (2, .int x2), (3, .int i3)] := by
  obtain ⟨hx, hb, hml, hown, hts, hK, hlk⟩ := id X
  intro i3 σ h H locs ls hw hS hl
  unfold wpX3_plus_37 at h
  refine lv_aload_n hx hb dX3_plus_37 rfl (lv_at hl 0 rfl) ?_
  refine lv_iload_n hx hb dX3_plus_38 rfl (lv_at hl 3 rfl) ?_
  refine m_put (T' := cT g (sG σ w0 i3)) X hw hS (tW hw0) rfl inA_X3 tyX3 tyX3_ok nmX3 2 (by decide) mw_101 rfl pd_I (Nat.le_of_ble_eq_true rfl) (uG hg) dX3_plus_39 (fun H locs hw hS => ?_)
  refine lv_aload_n hx hb dX3_plus_42 rfl (lv_at hl 0 rfl) ?_
  refine lv_aload_n hx hb dX3_plus_43 rfl (lv_at hl 1 rfl) ?_
  refine m_cVv (TT := cT g) (As := [.ref (g.1 (4 * w1))]) (rest := []) X hl.1 hw hS (kX3_join hg hw0 hw1 h) mw_201 fX3_join (tW hw0) rfl rfl ⟨rfl, rfl, Nat.le_of_ble_eq_true rfl, Nat.le_of_ble_eq_true rfl⟩ rfl rfl (Nat.le_of_ble_eq_true rfl) dX3_plus_44 (fun σ4 H locs h hw hS => ?_)
  refine lv_goto (tgt := 78) hx hb dX3_plus_47 (by decide) ?_
  exact wX3_plus_78 hg hw0 hw1 X hr _ h H locs ls hw hS (lv_sub hl [0, 1, 2] rfl)
def wpX3_plus_17 (w0 : Nat) (w1 : Nat) (x2 : Int32) (Q : CS → Prop) (i3 : Int32) (σ : CS) : Prop :=
  (¬ i3 = 0 →
    ((cG σ w0) = 0 →
      wpX3_plus_37 w0 w1 x2 Q i3 σ) ∧
    (¬ (cG σ w0) = 0 →
      (¬ (cG σ w0) = i3 →
        wpX3_compareAbs w0 w1 σ (fun (r5 : Int32) (σ6 : CS) =>
          (r5 < 0 →
            wpX3_differ w0 w1 w0 (sG σ6 w0 i3) (fun (σ8 : CS) =>
              wpX3_plus_78 w0 w1 x2 Q σ8)) ∧
          (¬ r5 < 0 →
            wpX3_differ w0 w0 w1 σ6 (fun (σ10 : CS) =>
              wpX3_plus_78 w0 w1 x2 Q σ10)))) ∧
      ((cG σ w0) = i3 →
        wpX3_plus_37 w0 w1 x2 Q i3 σ))) ∧
  (i3 = 0 →
    Q σ)
set_option maxRecDepth 100000 in
set_option maxHeartbeats 4000000 in
theorem wX3_plus_17 {p : Program} {l : Launch} {e : Env} {s : State} {m : MethodId} {args : Array Value} {below : List Frame} {meth : Method} {c : Code} {D : va_G} {A : Nat → Prop} {g : mG} (hg : inj g) {w0 : Nat} {w1 : Nat} {x2 : Int32} (hw0 : okW w0) (hw1 : okW w1) (X : cx p m meth c s args cX3_plus 4 RX3 D (tyG g)) (hr : meth.sig.returnType = none) {Q : CS → Prop} : ∀ (i3 : Int32) (σ : CS), wpX3_plus_17 w0 w1 x2 Q i3 σ → cW p l e rmX3_plus s m args below meth c (MQ below (va_Qv Q (fun u t => wd D A (cT g u) t.heap) A) args s 0 0 A) D A (cT g σ) 17 4 [(0, .ref (g.1 (4 * w0))), (1, .ref (g.1 (4 * w1))), (2, .int x2), (3, .int i3)] := by
  obtain ⟨hx, hb, hml, hown, hts, hK, hlk⟩ := id X
  intro i3 σ h H locs ls hw hS hl
  unfold wpX3_plus_17 at h
  refine lv_iload_n hx hb dX3_plus_17 rfl (lv_at hl 3 rfl) ?_
  refine lv_if_ne (tgt := 22) hx hb dX3_plus_18 (by decide) (fun hc => ?_) (fun hc => ?_)
  · replace h := h.1 hc
    refine lv_aload_n hx hb dX3_plus_22 rfl (lv_at hl 0 rfl) ?_
    refine m_get (v := .int (cG σ w0)) X hw (tW hw0) rfl inA_X3 2 (by decide) mw_101 rfl dX3_plus_23 ?_
    refine lv_if_eq (tgt := 37) hx hb dX3_plus_26 (by decide) (fun hc => ?_) (fun hc => ?_)
    · replace h := h.1 hc
      exact wX3_plus_37 hg hw0 hw1 X hr i3 _ h H locs ls hw hS (lv_sub hl [0, 1, 2, 3] rfl)
    · replace h := h.2 hc
      refine lv_aload_n hx hb dX3_plus_29 rfl (lv_at hl 0 rfl) ?_
      refine m_get (v := .int (cG σ w0)) X hw (tW hw0) rfl inA_X3 2 (by decide) mw_101 rfl dX3_plus_30 ?_
      refine lv_iload_n hx hb dX3_plus_33 rfl (lv_at hl 3 rfl) ?_
      refine lv_icmp_ne (tgt := 50) hx hb dX3_plus_34 (by decide) (fun hc => ?_) (fun hc => ?_)
      · replace h := h.1 hc
        refine lv_aload_n hx hb dX3_plus_50 rfl (lv_at hl 0 rfl) ?_
        refine lv_aload_n hx hb dX3_plus_51 rfl (lv_at hl 1 rfl) ?_
        refine m_cVi (TT := cT g) (As := [.ref (g.1 (4 * w1))]) (rest := []) X hl.1 hw hS (kX3_compareAbs hg hw0 hw1 h) mw_209 fX3_compareAbs (tW hw0) rfl rfl ⟨rfl, rfl, Nat.le_of_ble_eq_true rfl, Nat.le_of_ble_eq_true rfl⟩ rfl rfl (Nat.le_of_ble_eq_true rfl) dX3_plus_52 (fun r5 σ6 H locs h hw hS => ?_)
        refine lv_if_lt (tgt := 67) hx hb dX3_plus_55 (by decide) (fun hc => ?_) (fun hc => ?_)
        · replace h := h.1 hc
          refine lv_aload_n hx hb dX3_plus_67 rfl (lv_at hl 0 rfl) ?_
          refine lv_iload_n hx hb dX3_plus_68 rfl (lv_at hl 3 rfl) ?_
          refine m_put (T' := cT g (sG σ6 w0 i3)) X hw hS (tW hw0) rfl inA_X3 tyX3 tyX3_ok nmX3 2 (by decide) mw_101 rfl pd_I (Nat.le_of_ble_eq_true rfl) (uG hg) dX3_plus_69 (fun H locs hw hS => ?_)
          refine lv_aload_n hx hb dX3_plus_72 rfl (lv_at hl 0 rfl) ?_
          refine lv_aload_n hx hb dX3_plus_73 rfl (lv_at hl 1 rfl) ?_
          refine lv_aload_n hx hb dX3_plus_74 rfl (lv_at hl 0 rfl) ?_
          refine m_cVv (TT := cT g) (As := [.ref (g.1 (4 * w1)), .ref (g.1 (4 * w0))]) (rest := []) X hl.1 hw hS (kX3_differ hg hw0 hw1 hw0 h) mw_213 fX3_differ (tW hw0) rfl rfl ⟨rfl, rfl, Nat.le_of_ble_eq_true rfl, Nat.le_of_ble_eq_true rfl⟩ rfl rfl (Nat.le_of_ble_eq_true rfl) dX3_plus_75 (fun σ8 H locs h hw hS => ?_)
          exact wX3_plus_78 hg hw0 hw1 X hr _ h H locs ls hw hS (lv_sub hl [0, 1, 2] rfl)
        · replace h := h.2 hc
          refine lv_aload_n hx hb dX3_plus_58 rfl (lv_at hl 0 rfl) ?_
          refine lv_aload_n hx hb dX3_plus_59 rfl (lv_at hl 0 rfl) ?_
          refine lv_aload_n hx hb dX3_plus_60 rfl (lv_at hl 1 rfl) ?_
          refine m_cVv (TT := cT g) (As := [.ref (g.1 (4 * w0)), .ref (g.1 (4 * w1))]) (rest := []) X hl.1 hw hS (kX3_differ hg hw0 hw0 hw1 h) mw_213 fX3_differ (tW hw0) rfl rfl ⟨rfl, rfl, Nat.le_of_ble_eq_true rfl, Nat.le_of_ble_eq_true rfl⟩ rfl rfl (Nat.le_of_ble_eq_true rfl) dX3_plus_61 (fun σ10 H locs h hw hS => ?_)
          refine lv_goto (tgt := 78) hx hb dX3_plus_64 (by decide) ?_
          exact wX3_plus_78 hg hw0 hw1 X hr _ h H locs ls hw hS (lv_sub hl [0, 1, 2] rfl)
      · replace h := h.2 hc
        exact wX3_plus_37 hg hw0 hw1 X hr i3 _ h H locs ls hw hS (lv_sub hl [0, 1, 2, 3] rfl)
  · replace h := h.2 hc
    exact m_vret X hr hw hS h dX3_plus_21
def wpX3_plus_0 (w0 : Nat) (w1 : Nat) (x2 : Int32) (Q : CS → Prop) (σ : CS) : Prop :=
  (0 ≤ x2 →
    ∀ a11 : Int32, a11 = cG σ w1 →
    wpX3_plus_17 w0 w1 x2 Q a11 σ) ∧
  (¬ 0 ≤ x2 →
    ∀ a12 : Int32, a12 = -(cG σ w1) →
    wpX3_plus_17 w0 w1 x2 Q a12 σ)
set_option maxRecDepth 100000 in
set_option maxHeartbeats 4000000 in
theorem wX3_plus_0 {p : Program} {l : Launch} {e : Env} {s : State} {m : MethodId} {args : Array Value} {below : List Frame} {meth : Method} {c : Code} {D : va_G} {A : Nat → Prop} {g : mG} (hg : inj g) {w0 : Nat} {w1 : Nat} {x2 : Int32} (hw0 : okW w0) (hw1 : okW w1) (X : cx p m meth c s args cX3_plus 4 RX3 D (tyG g)) (hr : meth.sig.returnType = none) {Q : CS → Prop} : ∀ (σ : CS), wpX3_plus_0 w0 w1 x2 Q σ → cW p l e rmX3_plus s m args below meth c (MQ below (va_Qv Q (fun u t => wd D A (cT g u) t.heap) A) args s 0 0 A) D A (cT g σ) 0 4 [(0, .ref (g.1 (4 * w0))), (1, .ref (g.1 (4 * w1))), (2, .int x2)] := by
  obtain ⟨hx, hb, hml, hown, hts, hK, hlk⟩ := id X
  intro σ h H locs ls hw hS hl
  unfold wpX3_plus_0 at h
  refine lv_iload_n hx hb dX3_plus_0 rfl (lv_at hl 2 rfl) ?_
  refine lv_if_ge (tgt := 12) hx hb dX3_plus_1 (by decide) (fun hc => ?_) (fun hc => ?_)
  · replace h := h.1 hc
    refine lv_aload_n hx hb dX3_plus_12 rfl (lv_at hl 1 rfl) ?_
    refine m_get (v := .int (cG σ w1)) X hw (tW hw1) rfl inA_X3 2 (by decide) mw_101 rfl dX3_plus_13 ?_
    refine lv_topi (fun a11 ea11 => ?_)
    replace h := h a11 ea11
    refine lv_istore_n (lv' := [(3, .int a11), (0, .ref (g.1 (4 * w0))), (1, .ref (g.1 (4 * w1))), (2, .int x2)]) hx hb dX3_plus_16 rfl hl (by decide) rfl (fun ls hl => ?_)
    exact wX3_plus_17 hg hw0 hw1 X hr a11 _ h H locs ls hw hS (lv_sub hl [1, 2, 3, 0] rfl)
  · replace h := h.2 hc
    refine lv_aload_n hx hb dX3_plus_4 rfl (lv_at hl 1 rfl) ?_
    refine m_get (v := .int (cG σ w1)) X hw (tW hw1) rfl inA_X3 2 (by decide) mw_101 rfl dX3_plus_5 ?_
    refine lv_ineg hx hb dX3_plus_8 ?_
    refine lv_goto (tgt := 16) hx hb dX3_plus_9 (by decide) ?_
    refine lv_topi (fun a12 ea12 => ?_)
    replace h := h a12 ea12
    refine lv_istore_n (lv' := [(3, .int a12), (0, .ref (g.1 (4 * w0))), (1, .ref (g.1 (4 * w1))), (2, .int x2)]) hx hb dX3_plus_16 rfl hl (by decide) rfl (fun ls hl => ?_)
    exact wX3_plus_17 hg hw0 hw1 X hr a12 _ h H locs ls hw hS (lv_sub hl [1, 2, 3, 0] rfl)
def wpX3_plus (w0 : Nat) (w1 : Nat) (x2 : Int32) (σ : CS) (Q : CS → Prop) : Prop := wpX3_plus_0 w0 w1 x2 Q σ
theorem kX3_plus {l : Launch} {D : va_G} {A : Nat → Prop} {g : mG} (hg : inj g) {w0 : Nat} {w1 : Nat} {x2 : Int32} (hw0 : okW w0) (hw1 : okW w1) {σ : CS} {Q : CS → Prop} (h : wpX3_plus w0 w1 x2 σ Q) : Met l yX3_plus (Cond.code yX3_plus cX3_plus 4 none :: wsA) rmX3_plus (mPc D (tyG g) A (cT g σ) [.ref (g.1 (4 * w0)), .ref (g.1 (4 * w1)), .int x2]) (va_Qv Q (fun u t => wd D A (cT g u) t.heap) A) 0 0 A :=
  m_met (by decide +kernel) (Nat.le_of_ble_eq_true rfl) (fun p e s m below meth c X hr H locs ls hw hS hl => wX3_plus_0 hg hw0 hw1 X hr σ h H locs ls hw hS (lv_sub hl [0, 1, 2] rfl))
theorem fX3_plus : vfit yX3_plus cX3_plus 4 none 2 := ⟨mw_198, mw_199, mw_29, mw_200, by decide +kernel, by decide +kernel, by decide +kernel⟩
