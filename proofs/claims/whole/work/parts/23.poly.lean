/-! BigPolys$Poly.measure()V -/
def rmX2_measure : Room := { frames := 0, cells := 0, slots := 0, locals := 0 }
def wpX2_measure_30 (p0 : Nat) (Q : CS → Prop) (i1 : Int32) (σ : CS) : Prop :=
  Q (sD σ p0 i1)
set_option maxRecDepth 100000 in
set_option maxHeartbeats 4000000 in
theorem wX2_measure_30 {p : Program} {l : Launch} {e : Env} {s : State} {m : MethodId} {args : Array Value} {below : List Frame} {meth : Method} {c : Code} {D : va_G} {A : Nat → Prop} {g : mG} (hg : inj g) {p0 : Nat} (hp0 : p0 < 20) (X : cx p m meth c s args cX2_measure 2 RX2 D (tyG g)) (hr : meth.sig.returnType = none) {Q : CS → Prop} : ∀ (i1 : Int32) (σ : CS), wpX2_measure_30 p0 Q i1 σ → cW p l e rmX2_measure s m args below meth c (MQ below (va_Qv Q (fun u t => wd D A (cT g u) t.heap) A) args s 0 0 A) D A (cT g σ) 30 2 [(0, .ref (g.1 (4 * p0 + 2))), (1, .int i1)] := by
  obtain ⟨hx, hb, hml, hown, hts, hK, hlk⟩ := id X
  intro i1 σ h H locs ls hw hS hl
  unfold wpX2_measure_30 at h
  refine lv_aload_n hx hb dX2_measure_30 rfl (lv_at hl 0 rfl) ?_
  refine lv_iload_n hx hb dX2_measure_31 rfl (lv_at hl 1 rfl) ?_
  refine m_put (T' := cT g (sD σ p0 i1)) X hw hS (tP hp0) rfl inA_X2 tyX2 tyX2_ok nmX2 1 (by decide) mw_30 rfl pd_I (Nat.le_of_ble_eq_true rfl) (uD hg hp0) dX2_measure_32 (fun H locs hw hS => ?_)
  exact m_vret X hr hw hS h dX2_measure_35
def wbX2_measure_8 (p0 : Nat) (Q : CS → Prop) (N8 : Int32 → CS → Prop) (i1 : Int32) (σ : CS) : Prop :=
  (i1 < 0 →
    wpX2_measure_30 p0 Q i1 σ) ∧
  (¬ i1 < 0 →
    vp_in i1 (tlen p0) ∧ (
    (¬ (cG σ (16 * p0 + i1.toNatClampNeg)) = 0 →
      wpX2_measure_30 p0 Q i1 σ) ∧
    ((cG σ (16 * p0 + i1.toNatClampNeg)) = 0 →
      ∀ a2 : Int32, a2 = i1 + (-1 : Int32) →
      N8 a2 σ)))
set_option maxRecDepth 100000 in
set_option maxHeartbeats 4000000 in
theorem wX2_measure_8 {p : Program} {l : Launch} {e : Env} {s : State} {m : MethodId} {args : Array Value} {below : List Frame} {meth : Method} {c : Code} {D : va_G} {A : Nat → Prop} {g : mG} (hg : inj g) {p0 : Nat} (hp0 : p0 < 20) (X : cx p m meth c s args cX2_measure 2 RX2 D (tyG g)) (hr : meth.sig.returnType = none) {Q : CS → Prop} : ∀ (n : Nat) (i1 : Int32) (σ : CS), lq2 (wbX2_measure_8 p0 Q) n i1 σ → cW p l e rmX2_measure s m args below meth c (MQ below (va_Qv Q (fun u t => wd D A (cT g u) t.heap) A) args s 0 0 A) D A (cT g σ) 8 2 [(0, .ref (g.1 (4 * p0 + 2))), (1, .int i1)] := by
  obtain ⟨hx, hb, hml, hown, hts, hK, hlk⟩ := id X
  intro n
  induction n with
  | zero =>
    intro i1 σ h
    exact h.elim
  | succ n hN8 =>
    intro i1 σ h H locs ls hw hS hl
    replace h : wbX2_measure_8 p0 Q (lq2 (wbX2_measure_8 p0 Q) n) i1 σ := h
    unfold wbX2_measure_8 at h
    refine lv_iload_n hx hb dX2_measure_8 rfl (lv_at hl 1 rfl) ?_
    refine lv_if_lt (tgt := 30) hx hb dX2_measure_9 (by decide) (fun hc => ?_) (fun hc => ?_)
    · replace h := h.1 hc
      exact wX2_measure_30 hg hp0 X hr i1 _ h H locs ls hw hS (lv_sub hl [0, 1] rfl)
    · replace h := h.2 hc
      refine lv_aload_n hx hb dX2_measure_12 rfl (lv_at hl 0 rfl) ?_
      refine m_get (v := .ref (g.1 (4 * p0 + 3))) X hw (tP hp0) rfl inA_X2 0 (by decide) mw_27 rfl dX2_measure_13 ?_
      refine lv_iload_n hx hb dX2_measure_16 rfl (lv_at hl 1 rfl) ?_
      obtain ⟨hi1, h⟩ := h
      refine m_aald X hw (tT hp0) 2 rfl hi1 dX2_measure_17 ?_
      refine m_getN (v := .int (cG σ (16 * p0 + i1.toNatClampNeg))) X hw (tW (okW_t hp0 hi1)) rfl inA_X3 2 (by decide) (List.mem_append_left _ (List.mem_map.mpr ⟨_, List.mem_of_getElem? (i := 16) rfl, rfl⟩)) rfl dX2_measure_18 ?_
      refine lv_if_ne (tgt := 30) hx hb dX2_measure_21 (by decide) (fun hc => ?_) (fun hc => ?_)
      · replace h := h.1 hc
        exact wX2_measure_30 hg hp0 X hr i1 _ h H locs ls hw hS (lv_sub hl [0, 1] rfl)
      · replace h := h.2 hc
        obtain ⟨a2, ea2⟩ : ∃ z : Int32, z = i1 + (-1 : Int32) := ⟨_, rfl⟩
        replace h := h a2 ea2
        refine lv_iinc (v := a2) (lv' := [(1, .int a2), (0, .ref (g.1 (4 * p0 + 2)))]) hx hb dX2_measure_24 hl (k := 1) rfl (by rw [ea2]; rfl) (by decide) rfl (fun ls hl => ?_)
        refine lv_goto (tgt := 8) hx hb dX2_measure_27 (by decide) ?_
        exact hN8 a2 _ h H locs ls hw hS (lv_sub hl [1, 0] rfl)
def wpX2_measure_0 (p0 : Nat) (Q : CS → Prop) (σ : CS) : Prop :=
  ∀ a3 : Int32, a3 = (Int32.ofNat (tlen p0)) - (1 : Int32) →
  ∃ n, lq2 (wbX2_measure_8 p0 Q) n a3 σ
set_option maxRecDepth 100000 in
set_option maxHeartbeats 4000000 in
theorem wX2_measure_0 {p : Program} {l : Launch} {e : Env} {s : State} {m : MethodId} {args : Array Value} {below : List Frame} {meth : Method} {c : Code} {D : va_G} {A : Nat → Prop} {g : mG} (hg : inj g) {p0 : Nat} (hp0 : p0 < 20) (X : cx p m meth c s args cX2_measure 2 RX2 D (tyG g)) (hr : meth.sig.returnType = none) {Q : CS → Prop} : ∀ (σ : CS), wpX2_measure_0 p0 Q σ → cW p l e rmX2_measure s m args below meth c (MQ below (va_Qv Q (fun u t => wd D A (cT g u) t.heap) A) args s 0 0 A) D A (cT g σ) 0 2 [(0, .ref (g.1 (4 * p0 + 2)))] := by
  obtain ⟨hx, hb, hml, hown, hts, hK, hlk⟩ := id X
  intro σ h H locs ls hw hS hl
  unfold wpX2_measure_0 at h
  refine lv_aload_n hx hb dX2_measure_0 rfl (lv_at hl 0 rfl) ?_
  refine m_get (v := .ref (g.1 (4 * p0 + 3))) X hw (tP hp0) rfl inA_X2 0 (by decide) mw_27 rfl dX2_measure_1 ?_
  refine m_alen (v := Int32.ofNat (tlen p0)) X hw (tT hp0) 2 rfl rfl dX2_measure_4 ?_
  refine lv_iconst (v := (1 : Int32)) hx hb dX2_measure_5 (by decide) ?_
  refine lv_isub hx hb dX2_measure_6 ?_
  refine lv_topi (fun a3 ea3 => ?_)
  replace h := h a3 ea3
  refine lv_istore_n (lv' := [(1, .int a3), (0, .ref (g.1 (4 * p0 + 2)))]) hx hb dX2_measure_7 rfl hl (by decide) rfl (fun ls hl => ?_)
  obtain ⟨n9, h⟩ := h
  exact wX2_measure_8 hg hp0 X hr n9 a3 _ h H locs ls hw hS (lv_sub hl [1, 0] rfl)
def wpX2_measure (p0 : Nat) (σ : CS) (Q : CS → Prop) : Prop := wpX2_measure_0 p0 Q σ
theorem kX2_measure {l : Launch} {D : va_G} {A : Nat → Prop} {g : mG} (hg : inj g) {p0 : Nat} (hp0 : p0 < 20) {σ : CS} {Q : CS → Prop} (h : wpX2_measure p0 σ Q) : Met l yX2_measure (Cond.code yX2_measure cX2_measure 2 none :: wsA) rmX2_measure (mPc D (tyG g) A (cT g σ) [.ref (g.1 (4 * p0 + 2))]) (va_Qv Q (fun u t => wd D A (cT g u) t.heap) A) 0 0 A :=
  m_met (by decide +kernel) (Nat.le_of_ble_eq_true rfl) (fun p e s m below meth c X hr H locs ls hw hS hl => wX2_measure_0 hg hp0 X hr σ h H locs ls hw hS (lv_sub hl [0] rfl))
theorem fX2_measure : vfit yX2_measure cX2_measure 2 none 0 := ⟨mw_103, mw_104, mw_15, mw_105, by decide +kernel, by decide +kernel, by decide +kernel⟩
/-! BigPolys$Poly.clear()V -/
def rmX2_clear : Room := { frames := 1, cells := 0, slots := 0, locals := 20 }
def wbX2_clear_2 (p0 : Nat) (Q : CS → Prop) (N2 : Int32 → CS → Prop) (i1 : Int32) (σ : CS) : Prop :=
  ((Int32.ofNat (tlen p0)) ≤ i1 →
    Q (sD σ p0 (-1 : Int32))) ∧
  (¬ (Int32.ofNat (tlen p0)) ≤ i1 →
    vp_in i1 (tlen p0) ∧ (
    wpX3_clear (16 * p0 + i1.toNatClampNeg) σ (fun (σ3 : CS) =>
      ∀ a4 : Int32, a4 = i1 + (1 : Int32) →
      N2 a4 σ3)))
set_option maxRecDepth 100000 in
set_option maxHeartbeats 4000000 in
theorem wX2_clear_2 {p : Program} {l : Launch} {e : Env} {s : State} {m : MethodId} {args : Array Value} {below : List Frame} {meth : Method} {c : Code} {D : va_G} {A : Nat → Prop} {g : mG} (hg : inj g) {p0 : Nat} (hp0 : p0 < 20) (X : cx p m meth c s args cX2_clear 2 RX2 D (tyG g)) (hr : meth.sig.returnType = none) {Q : CS → Prop} : ∀ (n : Nat) (i1 : Int32) (σ : CS), lq2 (wbX2_clear_2 p0 Q) n i1 σ → cW p l e rmX2_clear s m args below meth c (MQ below (va_Qv Q (fun u t => wd D A (cT g u) t.heap) A) args s 0 0 A) D A (cT g σ) 2 2 [(0, .ref (g.1 (4 * p0 + 2))), (1, .int i1)] := by
  obtain ⟨hx, hb, hml, hown, hts, hK, hlk⟩ := id X
  intro n
  induction n with
  | zero =>
    intro i1 σ h
    exact h.elim
  | succ n hN2 =>
    intro i1 σ h H locs ls hw hS hl
    replace h : wbX2_clear_2 p0 Q (lq2 (wbX2_clear_2 p0 Q) n) i1 σ := h
    unfold wbX2_clear_2 at h
    refine lv_iload_n hx hb dX2_clear_2 rfl (lv_at hl 1 rfl) ?_
    refine lv_aload_n hx hb dX2_clear_3 rfl (lv_at hl 0 rfl) ?_
    refine m_get (v := .ref (g.1 (4 * p0 + 3))) X hw (tP hp0) rfl inA_X2 0 (by decide) mw_27 rfl dX2_clear_4 ?_
    refine m_alen (v := Int32.ofNat (tlen p0)) X hw (tT hp0) 2 rfl rfl dX2_clear_7 ?_
    refine lv_icmp_ge (tgt := 26) hx hb dX2_clear_8 (by decide) (fun hc => ?_) (fun hc => ?_)
    · replace h := h.1 hc
      refine lv_aload_n hx hb dX2_clear_26 rfl (lv_at hl 0 rfl) ?_
      refine lv_iconst (v := (-1 : Int32)) hx hb dX2_clear_27 (by decide) ?_
      refine m_put (T' := cT g (sD σ p0 (-1 : Int32))) X hw hS (tP hp0) rfl inA_X2 tyX2 tyX2_ok nmX2 1 (by decide) mw_30 rfl pd_I (Nat.le_of_ble_eq_true rfl) (uD hg hp0) dX2_clear_28 (fun H locs hw hS => ?_)
      exact m_vret X hr hw hS h dX2_clear_31
    · replace h := h.2 hc
      refine lv_aload_n hx hb dX2_clear_11 rfl (lv_at hl 0 rfl) ?_
      refine m_get (v := .ref (g.1 (4 * p0 + 3))) X hw (tP hp0) rfl inA_X2 0 (by decide) mw_27 rfl dX2_clear_12 ?_
      refine lv_iload_n hx hb dX2_clear_15 rfl (lv_at hl 1 rfl) ?_
      obtain ⟨hi1, h⟩ := h
      refine m_aald X hw (tT hp0) 2 rfl hi1 dX2_clear_16 ?_
      refine m_cVv (TT := cT g) (As := []) (rest := []) X hl.1 hw hS (kX3_clear hg (okW_t hp0 hi1) h) mw_195 fX3_clear (tW (okW_t hp0 hi1)) rfl rfl ⟨rfl, rfl, Nat.le_of_ble_eq_true rfl, Nat.le_of_ble_eq_true rfl⟩ rfl rfl (Nat.le_of_ble_eq_true rfl) dX2_clear_17 (fun σ3 H locs h hw hS => ?_)
      obtain ⟨a4, ea4⟩ : ∃ z : Int32, z = i1 + (1 : Int32) := ⟨_, rfl⟩
      replace h := h a4 ea4
      refine lv_iinc (v := a4) (lv' := [(1, .int a4), (0, .ref (g.1 (4 * p0 + 2)))]) hx hb dX2_clear_20 hl (k := 1) rfl (by rw [ea4]; rfl) (by decide) rfl (fun ls hl => ?_)
      refine lv_goto (tgt := 2) hx hb dX2_clear_23 (by decide) ?_
      exact hN2 a4 _ h H locs ls hw hS (lv_sub hl [1, 0] rfl)
def wpX2_clear_0 (p0 : Nat) (Q : CS → Prop) (σ : CS) : Prop :=
  ∃ n, lq2 (wbX2_clear_2 p0 Q) n (0 : Int32) σ
set_option maxRecDepth 100000 in
set_option maxHeartbeats 4000000 in
theorem wX2_clear_0 {p : Program} {l : Launch} {e : Env} {s : State} {m : MethodId} {args : Array Value} {below : List Frame} {meth : Method} {c : Code} {D : va_G} {A : Nat → Prop} {g : mG} (hg : inj g) {p0 : Nat} (hp0 : p0 < 20) (X : cx p m meth c s args cX2_clear 2 RX2 D (tyG g)) (hr : meth.sig.returnType = none) {Q : CS → Prop} : ∀ (σ : CS), wpX2_clear_0 p0 Q σ → cW p l e rmX2_clear s m args below meth c (MQ below (va_Qv Q (fun u t => wd D A (cT g u) t.heap) A) args s 0 0 A) D A (cT g σ) 0 2 [(0, .ref (g.1 (4 * p0 + 2)))] := by
  obtain ⟨hx, hb, hml, hown, hts, hK, hlk⟩ := id X
  intro σ h H locs ls hw hS hl
  unfold wpX2_clear_0 at h
  refine lv_iconst (v := (0 : Int32)) hx hb dX2_clear_0 (by decide) ?_
  refine lv_istore_n (lv' := [(1, .int (0 : Int32)), (0, .ref (g.1 (4 * p0 + 2)))]) hx hb dX2_clear_1 rfl hl (by decide) rfl (fun ls hl => ?_)
  obtain ⟨n9, h⟩ := h
  exact wX2_clear_2 hg hp0 X hr n9 (0 : Int32) _ h H locs ls hw hS (lv_sub hl [1, 0] rfl)
def wpX2_clear (p0 : Nat) (σ : CS) (Q : CS → Prop) : Prop := wpX2_clear_0 p0 Q σ
theorem kX2_clear {l : Launch} {D : va_G} {A : Nat → Prop} {g : mG} (hg : inj g) {p0 : Nat} (hp0 : p0 < 20) {σ : CS} {Q : CS → Prop} (h : wpX2_clear p0 σ Q) : Met l yX2_clear (Cond.code yX2_clear cX2_clear 2 none :: wsA) rmX2_clear (mPc D (tyG g) A (cT g σ) [.ref (g.1 (4 * p0 + 2))]) (va_Qv Q (fun u t => wd D A (cT g u) t.heap) A) 0 0 A :=
  m_met (by decide +kernel) (Nat.le_of_ble_eq_true rfl) (fun p e s m below meth c X hr H locs ls hw hS hl => wX2_clear_0 hg hp0 X hr σ h H locs ls hw hS (lv_sub hl [0] rfl))
theorem fX2_clear : vfit yX2_clear cX2_clear 2 none 0 := ⟨mw_252, mw_253, mw_15, mw_254, by decide +kernel, by decide +kernel, by decide +kernel⟩
/-! BigPolys$Poly.setOne()V -/
def rmX2_setOne : Room := { frames := 2, cells := 0, slots := 0, locals := 43 }
def wpX2_setOne_0 (p0 : Nat) (Q : CS → Prop) (σ : CS) : Prop :=
  wpX2_clear p0 σ (fun (σ2 : CS) =>
    vp_in (0 : Int32) (tlen p0) ∧ (
    wpX3_setOne (16 * p0 + (0 : Int32).toNatClampNeg) σ2 (fun (σ5 : CS) =>
      Q (sD σ5 p0 (0 : Int32)))))
set_option maxRecDepth 100000 in
set_option maxHeartbeats 4000000 in
theorem wX2_setOne_0 {p : Program} {l : Launch} {e : Env} {s : State} {m : MethodId} {args : Array Value} {below : List Frame} {meth : Method} {c : Code} {D : va_G} {A : Nat → Prop} {g : mG} (hg : inj g) {p0 : Nat} (hp0 : p0 < 20) (X : cx p m meth c s args cX2_setOne 1 RX2 D (tyG g)) (hr : meth.sig.returnType = none) {Q : CS → Prop} : ∀ (σ : CS), wpX2_setOne_0 p0 Q σ → cW p l e rmX2_setOne s m args below meth c (MQ below (va_Qv Q (fun u t => wd D A (cT g u) t.heap) A) args s 0 0 A) D A (cT g σ) 0 1 [(0, .ref (g.1 (4 * p0 + 2)))] := by
  obtain ⟨hx, hb, hml, hown, hts, hK, hlk⟩ := id X
  intro σ h H locs ls hw hS hl
  unfold wpX2_setOne_0 at h
  refine lv_aload_n hx hb dX2_setOne_0 rfl (lv_at hl 0 rfl) ?_
  refine m_cVv (TT := cT g) (As := []) (rest := []) X hl.1 hw hS (kX2_clear hg hp0 h) mw_458 fX2_clear (tP hp0) rfl rfl ⟨rfl, rfl, Nat.le_of_ble_eq_true rfl, Nat.le_of_ble_eq_true rfl⟩ rfl rfl (Nat.le_of_ble_eq_true rfl) dX2_setOne_1 (fun σ2 H locs h hw hS => ?_)
  refine lv_aload_n hx hb dX2_setOne_4 rfl (lv_at hl 0 rfl) ?_
  refine m_get (v := .ref (g.1 (4 * p0 + 3))) X hw (tP hp0) rfl inA_X2 0 (by decide) mw_27 rfl dX2_setOne_5 ?_
  refine lv_iconst (v := (0 : Int32)) hx hb dX2_setOne_8 (by decide) ?_
  obtain ⟨hi3, h⟩ := h
  refine m_aald X hw (tT hp0) 2 rfl hi3 dX2_setOne_9 ?_
  refine m_cVv (TT := cT g) (As := []) (rest := []) X hl.1 hw hS (kX3_setOne hg (okW_t hp0 hi3) h) mw_459 fX3_setOne (tW (okW_t hp0 hi3)) rfl rfl ⟨rfl, rfl, Nat.le_of_ble_eq_true rfl, Nat.le_of_ble_eq_true rfl⟩ rfl rfl (Nat.le_of_ble_eq_true rfl) dX2_setOne_10 (fun σ5 H locs h hw hS => ?_)
  refine lv_aload_n hx hb dX2_setOne_13 rfl (lv_at hl 0 rfl) ?_
  refine lv_iconst (v := (0 : Int32)) hx hb dX2_setOne_14 (by decide) ?_
  refine m_put (T' := cT g (sD σ5 p0 (0 : Int32))) X hw hS (tP hp0) rfl inA_X2 tyX2 tyX2_ok nmX2 1 (by decide) mw_30 rfl pd_I (Nat.le_of_ble_eq_true rfl) (uD hg hp0) dX2_setOne_15 (fun H locs hw hS => ?_)
  exact m_vret X hr hw hS h dX2_setOne_18
def wpX2_setOne (p0 : Nat) (σ : CS) (Q : CS → Prop) : Prop := wpX2_setOne_0 p0 Q σ
theorem kX2_setOne {l : Launch} {D : va_G} {A : Nat → Prop} {g : mG} (hg : inj g) {p0 : Nat} (hp0 : p0 < 20) {σ : CS} {Q : CS → Prop} (h : wpX2_setOne p0 σ Q) : Met l yX2_setOne (Cond.code yX2_setOne cX2_setOne 1 none :: wsA) rmX2_setOne (mPc D (tyG g) A (cT g σ) [.ref (g.1 (4 * p0 + 2))]) (va_Qv Q (fun u t => wd D A (cT g u) t.heap) A) 0 0 A :=
  m_met (by decide +kernel) (Nat.le_of_ble_eq_true rfl) (fun p e s m below meth c X hr H locs ls hw hS hl => wX2_setOne_0 hg hp0 X hr σ h H locs ls hw hS (lv_sub hl [0] rfl))
theorem fX2_setOne : vfit yX2_setOne cX2_setOne 1 none 0 := ⟨mw_455, mw_456, mw_15, mw_457, by decide +kernel, by decide +kernel, by decide +kernel⟩
/-! BigPolys$Poly.load(LBigPolys$Poly;)V -/
def rmX2_load : Room := { frames := 2, cells := 0, slots := 0, locals := 61 }
def wpX2_load_46 (p0 : Nat) (p1 : Nat) (Q : CS → Prop) (N2 : Int32 → CS → Prop) (i2 : Int32) (σ : CS) : Prop :=
  ∀ a1 : Int32, a1 = i2 + (1 : Int32) →
  N2 a1 σ
set_option maxRecDepth 100000 in
set_option maxHeartbeats 4000000 in
theorem wX2_load_46 {p : Program} {l : Launch} {e : Env} {s : State} {m : MethodId} {args : Array Value} {below : List Frame} {meth : Method} {c : Code} {D : va_G} {A : Nat → Prop} {g : mG} (hg : inj g) {p0 : Nat} {p1 : Nat} (hp0 : p0 < 20) (hp1 : p1 < 20) (X : cx p m meth c s args cX2_load 3 RX2 D (tyG g)) (hr : meth.sig.returnType = none) {Q : CS → Prop} {N2 : Int32 → CS → Prop} (hN2 : ∀ (i2 : Int32) (σ : CS), N2 i2 σ → cW p l e rmX2_load s m args below meth c (MQ below (va_Qv Q (fun u t => wd D A (cT g u) t.heap) A) args s 0 0 A) D A (cT g σ) 2 3 [(0, .ref (g.1 (4 * p0 + 2))), (1, .ref (g.1 (4 * p1 + 2))), (2, .int i2)]) : ∀ (i2 : Int32) (σ : CS), wpX2_load_46 p0 p1 Q N2 i2 σ → cW p l e rmX2_load s m args below meth c (MQ below (va_Qv Q (fun u t => wd D A (cT g u) t.heap) A) args s 0 0 A) D A (cT g σ) 46 3 [(0, .ref (g.1 (4 * p0 + 2))), (1, .ref (g.1 (4 * p1 + 2))), (2, .int i2)] := by
  obtain ⟨hx, hb, hml, hown, hts, hK, hlk⟩ := id X
  intro i2 σ h H locs ls hw hS hl
  unfold wpX2_load_46 at h
  obtain ⟨a1, ea1⟩ : ∃ z : Int32, z = i2 + (1 : Int32) := ⟨_, rfl⟩
  replace h := h a1 ea1
  refine lv_iinc (v := a1) (lv' := [(2, .int a1), (0, .ref (g.1 (4 * p0 + 2))), (1, .ref (g.1 (4 * p1 + 2)))]) hx hb dX2_load_46 hl (k := 2) rfl (by rw [ea1]; rfl) (by decide) rfl (fun ls hl => ?_)
  refine lv_goto (tgt := 2) hx hb dX2_load_49 (by decide) ?_
  exact hN2 a1 _ h H locs ls hw hS (lv_sub hl [1, 2, 0] rfl)
def wbX2_load_2 (p0 : Nat) (p1 : Nat) (Q : CS → Prop) (N2 : Int32 → CS → Prop) (i2 : Int32) (σ : CS) : Prop :=
  ((Int32.ofNat (tlen p0)) ≤ i2 →
    wpX2_measure p0 σ (fun (σ3 : CS) =>
      Q σ3)) ∧
  (¬ (Int32.ofNat (tlen p0)) ≤ i2 →
    ((cD σ p1) < i2 →
      vp_in i2 (tlen p0) ∧ (
      wpX3_clear (16 * p0 + i2.toNatClampNeg) σ (fun (σ6 : CS) =>
        wpX2_load_46 p0 p1 Q N2 i2 σ6))) ∧
    (¬ (cD σ p1) < i2 →
      vp_in i2 (tlen p0) ∧ (
      vp_in i2 (tlen p1) ∧ (
      wpX3_load (16 * p0 + i2.toNatClampNeg) (16 * p1 + i2.toNatClampNeg) σ (fun (σ10 : CS) =>
        wpX2_load_46 p0 p1 Q N2 i2 σ10)))))
set_option maxRecDepth 100000 in
set_option maxHeartbeats 4000000 in
theorem wX2_load_2 {p : Program} {l : Launch} {e : Env} {s : State} {m : MethodId} {args : Array Value} {below : List Frame} {meth : Method} {c : Code} {D : va_G} {A : Nat → Prop} {g : mG} (hg : inj g) {p0 : Nat} {p1 : Nat} (hp0 : p0 < 20) (hp1 : p1 < 20) (X : cx p m meth c s args cX2_load 3 RX2 D (tyG g)) (hr : meth.sig.returnType = none) {Q : CS → Prop} : ∀ (n : Nat) (i2 : Int32) (σ : CS), lq2 (wbX2_load_2 p0 p1 Q) n i2 σ → cW p l e rmX2_load s m args below meth c (MQ below (va_Qv Q (fun u t => wd D A (cT g u) t.heap) A) args s 0 0 A) D A (cT g σ) 2 3 [(0, .ref (g.1 (4 * p0 + 2))), (1, .ref (g.1 (4 * p1 + 2))), (2, .int i2)] := by
  obtain ⟨hx, hb, hml, hown, hts, hK, hlk⟩ := id X
  intro n
  induction n with
  | zero =>
    intro i2 σ h
    exact h.elim
  | succ n hN2 =>
    intro i2 σ h H locs ls hw hS hl
    replace h : wbX2_load_2 p0 p1 Q (lq2 (wbX2_load_2 p0 p1 Q) n) i2 σ := h
    unfold wbX2_load_2 at h
    refine lv_iload_n hx hb dX2_load_2 rfl (lv_at hl 2 rfl) ?_
    refine lv_aload_n hx hb dX2_load_3 rfl (lv_at hl 0 rfl) ?_
    refine m_get (v := .ref (g.1 (4 * p0 + 3))) X hw (tP hp0) rfl inA_X2 0 (by decide) mw_27 rfl dX2_load_4 ?_
    refine m_alen (v := Int32.ofNat (tlen p0)) X hw (tT hp0) 2 rfl rfl dX2_load_7 ?_
    refine lv_icmp_ge (tgt := 52) hx hb dX2_load_8 (by decide) (fun hc => ?_) (fun hc => ?_)
    · replace h := h.1 hc
      refine lv_aload_n hx hb dX2_load_52 rfl (lv_at hl 0 rfl) ?_
      refine m_cVv (TT := cT g) (As := []) (rest := []) X hl.1 hw hS (kX2_measure hg hp0 h) mw_196 fX2_measure (tP hp0) rfl rfl ⟨rfl, rfl, Nat.le_of_ble_eq_true rfl, Nat.le_of_ble_eq_true rfl⟩ rfl rfl (Nat.le_of_ble_eq_true rfl) dX2_load_53 (fun σ3 H locs h hw hS => ?_)
      exact m_vret X hr hw hS h dX2_load_56
    · replace h := h.2 hc
      refine lv_iload_n hx hb dX2_load_11 rfl (lv_at hl 2 rfl) ?_
      refine lv_aload_n hx hb dX2_load_12 rfl (lv_at hl 1 rfl) ?_
      refine m_get (v := .int (cD σ p1)) X hw (tP hp1) rfl inA_X2 1 (by decide) mw_30 rfl dX2_load_13 ?_
      refine lv_icmp_gt (tgt := 37) hx hb dX2_load_16 (by decide) (fun hc => ?_) (fun hc => ?_)
      · replace h := h.1 hc
        refine lv_aload_n hx hb dX2_load_37 rfl (lv_at hl 0 rfl) ?_
        refine m_get (v := .ref (g.1 (4 * p0 + 3))) X hw (tP hp0) rfl inA_X2 0 (by decide) mw_27 rfl dX2_load_38 ?_
        refine lv_iload_n hx hb dX2_load_41 rfl (lv_at hl 2 rfl) ?_
        obtain ⟨hi4, h⟩ := h
        refine m_aald X hw (tT hp0) 2 rfl hi4 dX2_load_42 ?_
        refine m_cVv (TT := cT g) (As := []) (rest := []) X hl.1 hw hS (kX3_clear hg (okW_t hp0 hi4) h) mw_195 fX3_clear (tW (okW_t hp0 hi4)) rfl rfl ⟨rfl, rfl, Nat.le_of_ble_eq_true rfl, Nat.le_of_ble_eq_true rfl⟩ rfl rfl (Nat.le_of_ble_eq_true rfl) dX2_load_43 (fun σ6 H locs h hw hS => ?_)
        exact wX2_load_46 hg hp0 hp1 X hr hN2 i2 _ h H locs ls hw hS (lv_sub hl [0, 1, 2] rfl)
      · replace h := h.2 hc
        refine lv_aload_n hx hb dX2_load_19 rfl (lv_at hl 0 rfl) ?_
        refine m_get (v := .ref (g.1 (4 * p0 + 3))) X hw (tP hp0) rfl inA_X2 0 (by decide) mw_27 rfl dX2_load_20 ?_
        refine lv_iload_n hx hb dX2_load_23 rfl (lv_at hl 2 rfl) ?_
        obtain ⟨hi7, h⟩ := h
        refine m_aald X hw (tT hp0) 2 rfl hi7 dX2_load_24 ?_
        refine lv_aload_n hx hb dX2_load_25 rfl (lv_at hl 1 rfl) ?_
        refine m_get (v := .ref (g.1 (4 * p1 + 3))) X hw (tP hp1) rfl inA_X2 0 (by decide) mw_27 rfl dX2_load_26 ?_
        refine lv_iload_n hx hb dX2_load_29 rfl (lv_at hl 2 rfl) ?_
        obtain ⟨hi8, h⟩ := h
        refine m_aald X hw (tT hp1) 2 rfl hi8 dX2_load_30 ?_
        refine m_cVv (TT := cT g) (As := [.ref (g.1 (4 * (16 * p1 + i2.toNatClampNeg)))]) (rest := []) X hl.1 hw hS (kX3_load hg (okW_t hp0 hi7) (okW_t hp1 hi8) h) mw_182 fX3_load (tW (okW_t hp0 hi7)) rfl rfl ⟨rfl, rfl, Nat.le_of_ble_eq_true rfl, Nat.le_of_ble_eq_true rfl⟩ rfl rfl (Nat.le_of_ble_eq_true rfl) dX2_load_31 (fun σ10 H locs h hw hS => ?_)
        refine lv_goto (tgt := 46) hx hb dX2_load_34 (by decide) ?_
        exact wX2_load_46 hg hp0 hp1 X hr hN2 i2 _ h H locs ls hw hS (lv_sub hl [0, 1, 2] rfl)
def wpX2_load_0 (p0 : Nat) (p1 : Nat) (Q : CS → Prop) (σ : CS) : Prop :=
  ∃ n, lq2 (wbX2_load_2 p0 p1 Q) n (0 : Int32) σ
set_option maxRecDepth 100000 in
set_option maxHeartbeats 4000000 in
theorem wX2_load_0 {p : Program} {l : Launch} {e : Env} {s : State} {m : MethodId} {args : Array Value} {below : List Frame} {meth : Method} {c : Code} {D : va_G} {A : Nat → Prop} {g : mG} (hg : inj g) {p0 : Nat} {p1 : Nat} (hp0 : p0 < 20) (hp1 : p1 < 20) (X : cx p m meth c s args cX2_load 3 RX2 D (tyG g)) (hr : meth.sig.returnType = none) {Q : CS → Prop} : ∀ (σ : CS), wpX2_load_0 p0 p1 Q σ → cW p l e rmX2_load s m args below meth c (MQ below (va_Qv Q (fun u t => wd D A (cT g u) t.heap) A) args s 0 0 A) D A (cT g σ) 0 3 [(0, .ref (g.1 (4 * p0 + 2))), (1, .ref (g.1 (4 * p1 + 2)))] := by
  obtain ⟨hx, hb, hml, hown, hts, hK, hlk⟩ := id X
  intro σ h H locs ls hw hS hl
  unfold wpX2_load_0 at h
  refine lv_iconst (v := (0 : Int32)) hx hb dX2_load_0 (by decide) ?_
  refine lv_istore_n (lv' := [(2, .int (0 : Int32)), (0, .ref (g.1 (4 * p0 + 2))), (1, .ref (g.1 (4 * p1 + 2)))]) hx hb dX2_load_1 rfl hl (by decide) rfl (fun ls hl => ?_)
  obtain ⟨n9, h⟩ := h
  exact wX2_load_2 hg hp0 hp1 X hr n9 (0 : Int32) _ h H locs ls hw hS (lv_sub hl [1, 2, 0] rfl)
def wpX2_load (p0 : Nat) (p1 : Nat) (σ : CS) (Q : CS → Prop) : Prop := wpX2_load_0 p0 p1 Q σ
theorem kX2_load {l : Launch} {D : va_G} {A : Nat → Prop} {g : mG} (hg : inj g) {p0 : Nat} {p1 : Nat} (hp0 : p0 < 20) (hp1 : p1 < 20) {σ : CS} {Q : CS → Prop} (h : wpX2_load p0 p1 σ Q) : Met l yX2_load (Cond.code yX2_load cX2_load 3 none :: wsA) rmX2_load (mPc D (tyG g) A (cT g σ) [.ref (g.1 (4 * p0 + 2)), .ref (g.1 (4 * p1 + 2))]) (va_Qv Q (fun u t => wd D A (cT g u) t.heap) A) 0 0 A :=
  m_met (by decide +kernel) (Nat.le_of_ble_eq_true rfl) (fun p e s m below meth c X hr H locs ls hw hS hl => wX2_load_0 hg hp0 hp1 X hr σ h H locs ls hw hS (lv_sub hl [0, 1] rfl))
theorem fX2_load : vfit yX2_load cX2_load 3 none 1 := ⟨mw_179, mw_180, mw_15, mw_181, by decide +kernel, by decide +kernel, by decide +kernel⟩
/-! BigPolys$Poly.slopeOf(LBigPolys$Poly;)V -/
def rmX2_slopeOf : Room := { frames := 2, cells := 0, slots := 0, locals := 61 }
def wpX2_slopeOf_61 (p0 : Nat) (p1 : Nat) (Q : CS → Prop) (N2 : Int32 → CS → Prop) (i2 : Int32) (σ : CS) : Prop :=
  ∀ a1 : Int32, a1 = i2 + (1 : Int32) →
  N2 a1 σ
set_option maxRecDepth 100000 in
set_option maxHeartbeats 4000000 in
theorem wX2_slopeOf_61 {p : Program} {l : Launch} {e : Env} {s : State} {m : MethodId} {args : Array Value} {below : List Frame} {meth : Method} {c : Code} {D : va_G} {A : Nat → Prop} {g : mG} (hg : inj g) {p0 : Nat} {p1 : Nat} (hp0 : p0 < 20) (hp1 : p1 < 20) (X : cx p m meth c s args cX2_slopeOf 3 RX2 D (tyG g)) (hr : meth.sig.returnType = none) {Q : CS → Prop} {N2 : Int32 → CS → Prop} (hN2 : ∀ (i2 : Int32) (σ : CS), N2 i2 σ → cW p l e rmX2_slopeOf s m args below meth c (MQ below (va_Qv Q (fun u t => wd D A (cT g u) t.heap) A) args s 0 0 A) D A (cT g σ) 2 3 [(0, .ref (g.1 (4 * p0 + 2))), (1, .ref (g.1 (4 * p1 + 2))), (2, .int i2)]) : ∀ (i2 : Int32) (σ : CS), wpX2_slopeOf_61 p0 p1 Q N2 i2 σ → cW p l e rmX2_slopeOf s m args below meth c (MQ below (va_Qv Q (fun u t => wd D A (cT g u) t.heap) A) args s 0 0 A) D A (cT g σ) 61 3 [(0, .ref (g.1 (4 * p0 + 2))), (1, .ref (g.1 (4 * p1 + 2))), (2, .int i2)] := by
  obtain ⟨hx, hb, hml, hown, hts, hK, hlk⟩ := id X
  intro i2 σ h H locs ls hw hS hl
  unfold wpX2_slopeOf_61 at h
  obtain ⟨a1, ea1⟩ : ∃ z : Int32, z = i2 + (1 : Int32) := ⟨_, rfl⟩
  replace h := h a1 ea1
  refine lv_iinc (v := a1) (lv' := [(2, .int a1), (0, .ref (g.1 (4 * p0 + 2))), (1, .ref (g.1 (4 * p1 + 2)))]) hx hb dX2_slopeOf_61 hl (k := 2) rfl (by rw [ea1]; rfl) (by decide) rfl (fun ls hl => ?_)
  refine lv_goto (tgt := 2) hx hb dX2_slopeOf_64 (by decide) ?_
  exact hN2 a1 _ h H locs ls hw hS (lv_sub hl [1, 2, 0] rfl)
def wbX2_slopeOf_2 (p0 : Nat) (p1 : Nat) (Q : CS → Prop) (N2 : Int32 → CS → Prop) (i2 : Int32) (σ : CS) : Prop :=
  ((Int32.ofNat (tlen p0)) ≤ i2 →
    wpX2_measure p0 σ (fun (σ3 : CS) =>
      Q σ3)) ∧
  (¬ (Int32.ofNat (tlen p0)) ≤ i2 →
    ((cD σ p1) ≤ i2 →
      vp_in i2 (tlen p0) ∧ (
      wpX3_clear (16 * p0 + i2.toNatClampNeg) σ (fun (σ6 : CS) =>
        wpX2_slopeOf_61 p0 p1 Q N2 i2 σ6))) ∧
    (¬ (cD σ p1) ≤ i2 →
      vp_in i2 (tlen p0) ∧ (
      vp_in (i2 + (1 : Int32)) (tlen p1) ∧ (
      wpX3_load (16 * p0 + i2.toNatClampNeg) (16 * p1 + (i2 + (1 : Int32)).toNatClampNeg) σ (fun (σ10 : CS) =>
        vp_in i2 (tlen p0) ∧ (
        wpX3_scale (16 * p0 + i2.toNatClampNeg) ((i2 + (1 : Int32)).toInt64) σ10 (fun (σ13 : CS) =>
          wpX2_slopeOf_61 p0 p1 Q N2 i2 σ13)))))))
set_option maxRecDepth 100000 in
set_option maxHeartbeats 4000000 in
theorem wX2_slopeOf_2 {p : Program} {l : Launch} {e : Env} {s : State} {m : MethodId} {args : Array Value} {below : List Frame} {meth : Method} {c : Code} {D : va_G} {A : Nat → Prop} {g : mG} (hg : inj g) {p0 : Nat} {p1 : Nat} (hp0 : p0 < 20) (hp1 : p1 < 20) (X : cx p m meth c s args cX2_slopeOf 3 RX2 D (tyG g)) (hr : meth.sig.returnType = none) {Q : CS → Prop} : ∀ (n : Nat) (i2 : Int32) (σ : CS), lq2 (wbX2_slopeOf_2 p0 p1 Q) n i2 σ → cW p l e rmX2_slopeOf s m args below meth c (MQ below (va_Qv Q (fun u t => wd D A (cT g u) t.heap) A) args s 0 0 A) D A (cT g σ) 2 3 [(0, .ref (g.1 (4 * p0 + 2))), (1, .ref (g.1 (4 * p1 + 2))), (2, .int i2)] := by
  obtain ⟨hx, hb, hml, hown, hts, hK, hlk⟩ := id X
  intro n
  induction n with
  | zero =>
    intro i2 σ h
    exact h.elim
  | succ n hN2 =>
    intro i2 σ h H locs ls hw hS hl
    replace h : wbX2_slopeOf_2 p0 p1 Q (lq2 (wbX2_slopeOf_2 p0 p1 Q) n) i2 σ := h
    unfold wbX2_slopeOf_2 at h
    refine lv_iload_n hx hb dX2_slopeOf_2 rfl (lv_at hl 2 rfl) ?_
    refine lv_aload_n hx hb dX2_slopeOf_3 rfl (lv_at hl 0 rfl) ?_
    refine m_get (v := .ref (g.1 (4 * p0 + 3))) X hw (tP hp0) rfl inA_X2 0 (by decide) mw_27 rfl dX2_slopeOf_4 ?_
    refine m_alen (v := Int32.ofNat (tlen p0)) X hw (tT hp0) 2 rfl rfl dX2_slopeOf_7 ?_
    refine lv_icmp_ge (tgt := 67) hx hb dX2_slopeOf_8 (by decide) (fun hc => ?_) (fun hc => ?_)
    · replace h := h.1 hc
      refine lv_aload_n hx hb dX2_slopeOf_67 rfl (lv_at hl 0 rfl) ?_
      refine m_cVv (TT := cT g) (As := []) (rest := []) X hl.1 hw hS (kX2_measure hg hp0 h) mw_196 fX2_measure (tP hp0) rfl rfl ⟨rfl, rfl, Nat.le_of_ble_eq_true rfl, Nat.le_of_ble_eq_true rfl⟩ rfl rfl (Nat.le_of_ble_eq_true rfl) dX2_slopeOf_68 (fun σ3 H locs h hw hS => ?_)
      exact m_vret X hr hw hS h dX2_slopeOf_71
    · replace h := h.2 hc
      refine lv_iload_n hx hb dX2_slopeOf_11 rfl (lv_at hl 2 rfl) ?_
      refine lv_aload_n hx hb dX2_slopeOf_12 rfl (lv_at hl 1 rfl) ?_
      refine m_get (v := .int (cD σ p1)) X hw (tP hp1) rfl inA_X2 1 (by decide) mw_30 rfl dX2_slopeOf_13 ?_
      refine lv_icmp_ge (tgt := 52) hx hb dX2_slopeOf_16 (by decide) (fun hc => ?_) (fun hc => ?_)
      · replace h := h.1 hc
        refine lv_aload_n hx hb dX2_slopeOf_52 rfl (lv_at hl 0 rfl) ?_
        refine m_get (v := .ref (g.1 (4 * p0 + 3))) X hw (tP hp0) rfl inA_X2 0 (by decide) mw_27 rfl dX2_slopeOf_53 ?_
        refine lv_iload_n hx hb dX2_slopeOf_56 rfl (lv_at hl 2 rfl) ?_
        obtain ⟨hi4, h⟩ := h
        refine m_aald X hw (tT hp0) 2 rfl hi4 dX2_slopeOf_57 ?_
        refine m_cVv (TT := cT g) (As := []) (rest := []) X hl.1 hw hS (kX3_clear hg (okW_t hp0 hi4) h) mw_195 fX3_clear (tW (okW_t hp0 hi4)) rfl rfl ⟨rfl, rfl, Nat.le_of_ble_eq_true rfl, Nat.le_of_ble_eq_true rfl⟩ rfl rfl (Nat.le_of_ble_eq_true rfl) dX2_slopeOf_58 (fun σ6 H locs h hw hS => ?_)
        exact wX2_slopeOf_61 hg hp0 hp1 X hr hN2 i2 _ h H locs ls hw hS (lv_sub hl [0, 1, 2] rfl)
      · replace h := h.2 hc
        refine lv_aload_n hx hb dX2_slopeOf_19 rfl (lv_at hl 0 rfl) ?_
        refine m_get (v := .ref (g.1 (4 * p0 + 3))) X hw (tP hp0) rfl inA_X2 0 (by decide) mw_27 rfl dX2_slopeOf_20 ?_
        refine lv_iload_n hx hb dX2_slopeOf_23 rfl (lv_at hl 2 rfl) ?_
        obtain ⟨hi7, h⟩ := h
        refine m_aald X hw (tT hp0) 2 rfl hi7 dX2_slopeOf_24 ?_
        refine lv_aload_n hx hb dX2_slopeOf_25 rfl (lv_at hl 1 rfl) ?_
        refine m_get (v := .ref (g.1 (4 * p1 + 3))) X hw (tP hp1) rfl inA_X2 0 (by decide) mw_27 rfl dX2_slopeOf_26 ?_
        refine lv_iload_n hx hb dX2_slopeOf_29 rfl (lv_at hl 2 rfl) ?_
        refine lv_iconst (v := (1 : Int32)) hx hb dX2_slopeOf_30 (by decide) ?_
        refine lv_iadd hx hb dX2_slopeOf_31 ?_
        obtain ⟨hi8, h⟩ := h
        refine m_aald X hw (tT hp1) 2 rfl hi8 dX2_slopeOf_32 ?_
        refine m_cVv (TT := cT g) (As := [.ref (g.1 (4 * (16 * p1 + (i2 + (1 : Int32)).toNatClampNeg)))]) (rest := []) X hl.1 hw hS (kX3_load hg (okW_t hp0 hi7) (okW_t hp1 hi8) h) mw_182 fX3_load (tW (okW_t hp0 hi7)) rfl rfl ⟨rfl, rfl, Nat.le_of_ble_eq_true rfl, Nat.le_of_ble_eq_true rfl⟩ rfl rfl (Nat.le_of_ble_eq_true rfl) dX2_slopeOf_33 (fun σ10 H locs h hw hS => ?_)
        refine lv_aload_n hx hb dX2_slopeOf_36 rfl (lv_at hl 0 rfl) ?_
        refine m_get (v := .ref (g.1 (4 * p0 + 3))) X hw (tP hp0) rfl inA_X2 0 (by decide) mw_27 rfl dX2_slopeOf_37 ?_
        refine lv_iload_n hx hb dX2_slopeOf_40 rfl (lv_at hl 2 rfl) ?_
        obtain ⟨hi11, h⟩ := h
        refine m_aald X hw (tT hp0) 2 rfl hi11 dX2_slopeOf_41 ?_
        refine lv_iload_n hx hb dX2_slopeOf_42 rfl (lv_at hl 2 rfl) ?_
        refine lv_iconst (v := (1 : Int32)) hx hb dX2_slopeOf_43 (by decide) ?_
        refine lv_iadd hx hb dX2_slopeOf_44 ?_
        refine lv_i2l (v := (i2 + (1 : Int32)).toInt64) hx hb dX2_slopeOf_45 rfl ?_
        refine m_cVv (TT := cT g) (As := [.long ((i2 + (1 : Int32)).toInt64)]) (rest := []) X hl.1 hw hS (kX3_scale hg (okW_t hp0 hi11) h) mw_287 fX3_scale (tW (okW_t hp0 hi11)) rfl rfl ⟨rfl, rfl, Nat.le_of_ble_eq_true rfl, Nat.le_of_ble_eq_true rfl⟩ rfl rfl (Nat.le_of_ble_eq_true rfl) dX2_slopeOf_46 (fun σ13 H locs h hw hS => ?_)
        refine lv_goto (tgt := 61) hx hb dX2_slopeOf_49 (by decide) ?_
        exact wX2_slopeOf_61 hg hp0 hp1 X hr hN2 i2 _ h H locs ls hw hS (lv_sub hl [0, 1, 2] rfl)
def wpX2_slopeOf_0 (p0 : Nat) (p1 : Nat) (Q : CS → Prop) (σ : CS) : Prop :=
  ∃ n, lq2 (wbX2_slopeOf_2 p0 p1 Q) n (0 : Int32) σ
set_option maxRecDepth 100000 in
set_option maxHeartbeats 4000000 in
theorem wX2_slopeOf_0 {p : Program} {l : Launch} {e : Env} {s : State} {m : MethodId} {args : Array Value} {below : List Frame} {meth : Method} {c : Code} {D : va_G} {A : Nat → Prop} {g : mG} (hg : inj g) {p0 : Nat} {p1 : Nat} (hp0 : p0 < 20) (hp1 : p1 < 20) (X : cx p m meth c s args cX2_slopeOf 3 RX2 D (tyG g)) (hr : meth.sig.returnType = none) {Q : CS → Prop} : ∀ (σ : CS), wpX2_slopeOf_0 p0 p1 Q σ → cW p l e rmX2_slopeOf s m args below meth c (MQ below (va_Qv Q (fun u t => wd D A (cT g u) t.heap) A) args s 0 0 A) D A (cT g σ) 0 3 [(0, .ref (g.1 (4 * p0 + 2))), (1, .ref (g.1 (4 * p1 + 2)))] := by
  obtain ⟨hx, hb, hml, hown, hts, hK, hlk⟩ := id X
  intro σ h H locs ls hw hS hl
  unfold wpX2_slopeOf_0 at h
  refine lv_iconst (v := (0 : Int32)) hx hb dX2_slopeOf_0 (by decide) ?_
  refine lv_istore_n (lv' := [(2, .int (0 : Int32)), (0, .ref (g.1 (4 * p0 + 2))), (1, .ref (g.1 (4 * p1 + 2)))]) hx hb dX2_slopeOf_1 rfl hl (by decide) rfl (fun ls hl => ?_)
  obtain ⟨n9, h⟩ := h
  exact wX2_slopeOf_2 hg hp0 hp1 X hr n9 (0 : Int32) _ h H locs ls hw hS (lv_sub hl [1, 2, 0] rfl)
def wpX2_slopeOf (p0 : Nat) (p1 : Nat) (σ : CS) (Q : CS → Prop) : Prop := wpX2_slopeOf_0 p0 p1 Q σ
theorem kX2_slopeOf {l : Launch} {D : va_G} {A : Nat → Prop} {g : mG} (hg : inj g) {p0 : Nat} {p1 : Nat} (hp0 : p0 < 20) (hp1 : p1 < 20) {σ : CS} {Q : CS → Prop} (h : wpX2_slopeOf p0 p1 σ Q) : Met l yX2_slopeOf (Cond.code yX2_slopeOf cX2_slopeOf 3 none :: wsA) rmX2_slopeOf (mPc D (tyG g) A (cT g σ) [.ref (g.1 (4 * p0 + 2)), .ref (g.1 (4 * p1 + 2))]) (va_Qv Q (fun u t => wd D A (cT g u) t.heap) A) 0 0 A :=
  m_met (by decide +kernel) (Nat.le_of_ble_eq_true rfl) (fun p e s m below meth c X hr H locs ls hw hS hl => wX2_slopeOf_0 hg hp0 hp1 X hr σ h H locs ls hw hS (lv_sub hl [0, 1] rfl))
theorem fX2_slopeOf : vfit yX2_slopeOf cX2_slopeOf 3 none 1 := ⟨mw_284, mw_285, mw_15, mw_286, by decide +kernel, by decide +kernel, by decide +kernel⟩
/-! BigPolys$Poly.negate()V -/
def rmX2_negate : Room := { frames := 1, cells := 0, slots := 0, locals := 20 }
def wbX2_negate_2 (p0 : Nat) (Q : CS → Prop) (N2 : Int32 → CS → Prop) (i1 : Int32) (σ : CS) : Prop :=
  ((cD σ p0) < i1 →
    Q σ) ∧
  (¬ (cD σ p0) < i1 →
    vp_in i1 (tlen p0) ∧ (
    wpX3_negate (16 * p0 + i1.toNatClampNeg) σ (fun (σ3 : CS) =>
      ∀ a4 : Int32, a4 = i1 + (1 : Int32) →
      N2 a4 σ3)))
set_option maxRecDepth 100000 in
set_option maxHeartbeats 4000000 in
theorem wX2_negate_2 {p : Program} {l : Launch} {e : Env} {s : State} {m : MethodId} {args : Array Value} {below : List Frame} {meth : Method} {c : Code} {D : va_G} {A : Nat → Prop} {g : mG} (hg : inj g) {p0 : Nat} (hp0 : p0 < 20) (X : cx p m meth c s args cX2_negate 2 RX2 D (tyG g)) (hr : meth.sig.returnType = none) {Q : CS → Prop} : ∀ (n : Nat) (i1 : Int32) (σ : CS), lq2 (wbX2_negate_2 p0 Q) n i1 σ → cW p l e rmX2_negate s m args below meth c (MQ below (va_Qv Q (fun u t => wd D A (cT g u) t.heap) A) args s 0 0 A) D A (cT g σ) 2 2 [(0, .ref (g.1 (4 * p0 + 2))), (1, .int i1)] := by
  obtain ⟨hx, hb, hml, hown, hts, hK, hlk⟩ := id X
  intro n
  induction n with
  | zero =>
    intro i1 σ h
    exact h.elim
  | succ n hN2 =>
    intro i1 σ h H locs ls hw hS hl
    replace h : wbX2_negate_2 p0 Q (lq2 (wbX2_negate_2 p0 Q) n) i1 σ := h
    unfold wbX2_negate_2 at h
    refine lv_iload_n hx hb dX2_negate_2 rfl (lv_at hl 1 rfl) ?_
    refine lv_aload_n hx hb dX2_negate_3 rfl (lv_at hl 0 rfl) ?_
    refine m_get (v := .int (cD σ p0)) X hw (tP hp0) rfl inA_X2 1 (by decide) mw_30 rfl dX2_negate_4 ?_
    refine lv_icmp_gt (tgt := 25) hx hb dX2_negate_7 (by decide) (fun hc => ?_) (fun hc => ?_)
    · replace h := h.1 hc
      exact m_vret X hr hw hS h dX2_negate_25
    · replace h := h.2 hc
      refine lv_aload_n hx hb dX2_negate_10 rfl (lv_at hl 0 rfl) ?_
      refine m_get (v := .ref (g.1 (4 * p0 + 3))) X hw (tP hp0) rfl inA_X2 0 (by decide) mw_27 rfl dX2_negate_11 ?_
      refine lv_iload_n hx hb dX2_negate_14 rfl (lv_at hl 1 rfl) ?_
      obtain ⟨hi1, h⟩ := h
      refine m_aald X hw (tT hp0) 2 rfl hi1 dX2_negate_15 ?_
      refine m_cVv (TT := cT g) (As := []) (rest := []) X hl.1 hw hS (kX3_negate hg (okW_t hp0 hi1) h) mw_339 fX3_negate (tW (okW_t hp0 hi1)) rfl rfl ⟨rfl, rfl, Nat.le_of_ble_eq_true rfl, Nat.le_of_ble_eq_true rfl⟩ rfl rfl (Nat.le_of_ble_eq_true rfl) dX2_negate_16 (fun σ3 H locs h hw hS => ?_)
      obtain ⟨a4, ea4⟩ : ∃ z : Int32, z = i1 + (1 : Int32) := ⟨_, rfl⟩
      replace h := h a4 ea4
      refine lv_iinc (v := a4) (lv' := [(1, .int a4), (0, .ref (g.1 (4 * p0 + 2)))]) hx hb dX2_negate_19 hl (k := 1) rfl (by rw [ea4]; rfl) (by decide) rfl (fun ls hl => ?_)
      refine lv_goto (tgt := 2) hx hb dX2_negate_22 (by decide) ?_
      exact hN2 a4 _ h H locs ls hw hS (lv_sub hl [1, 0] rfl)
def wpX2_negate_0 (p0 : Nat) (Q : CS → Prop) (σ : CS) : Prop :=
  ∃ n, lq2 (wbX2_negate_2 p0 Q) n (0 : Int32) σ
set_option maxRecDepth 100000 in
set_option maxHeartbeats 4000000 in
theorem wX2_negate_0 {p : Program} {l : Launch} {e : Env} {s : State} {m : MethodId} {args : Array Value} {below : List Frame} {meth : Method} {c : Code} {D : va_G} {A : Nat → Prop} {g : mG} (hg : inj g) {p0 : Nat} (hp0 : p0 < 20) (X : cx p m meth c s args cX2_negate 2 RX2 D (tyG g)) (hr : meth.sig.returnType = none) {Q : CS → Prop} : ∀ (σ : CS), wpX2_negate_0 p0 Q σ → cW p l e rmX2_negate s m args below meth c (MQ below (va_Qv Q (fun u t => wd D A (cT g u) t.heap) A) args s 0 0 A) D A (cT g σ) 0 2 [(0, .ref (g.1 (4 * p0 + 2)))] := by
  obtain ⟨hx, hb, hml, hown, hts, hK, hlk⟩ := id X
  intro σ h H locs ls hw hS hl
  unfold wpX2_negate_0 at h
  refine lv_iconst (v := (0 : Int32)) hx hb dX2_negate_0 (by decide) ?_
  refine lv_istore_n (lv' := [(1, .int (0 : Int32)), (0, .ref (g.1 (4 * p0 + 2)))]) hx hb dX2_negate_1 rfl hl (by decide) rfl (fun ls hl => ?_)
  obtain ⟨n9, h⟩ := h
  exact wX2_negate_2 hg hp0 X hr n9 (0 : Int32) _ h H locs ls hw hS (lv_sub hl [1, 0] rfl)
def wpX2_negate (p0 : Nat) (σ : CS) (Q : CS → Prop) : Prop := wpX2_negate_0 p0 Q σ
theorem kX2_negate {l : Launch} {D : va_G} {A : Nat → Prop} {g : mG} (hg : inj g) {p0 : Nat} (hp0 : p0 < 20) {σ : CS} {Q : CS → Prop} (h : wpX2_negate p0 σ Q) : Met l yX2_negate (Cond.code yX2_negate cX2_negate 2 none :: wsA) rmX2_negate (mPc D (tyG g) A (cT g σ) [.ref (g.1 (4 * p0 + 2))]) (va_Qv Q (fun u t => wd D A (cT g u) t.heap) A) 0 0 A :=
  m_met (by decide +kernel) (Nat.le_of_ble_eq_true rfl) (fun p e s m below meth c X hr H locs ls hw hS hl => wX2_negate_0 hg hp0 X hr σ h H locs ls hw hS (lv_sub hl [0] rfl))
theorem fX2_negate : vfit yX2_negate cX2_negate 2 none 0 := ⟨mw_336, mw_337, mw_15, mw_338, by decide +kernel, by decide +kernel, by decide +kernel⟩
/-! BigPolys$Poly.leadSign()I -/
def rmX2_leadSign : Room := { frames := 0, cells := 0, slots := 0, locals := 0 }
def wpX2_leadSign_0 (p0 : Nat) (Q : Int32 → CS → Prop) (σ : CS) : Prop :=
  (0 ≤ (cD σ p0) →
    vp_in (cD σ p0) (tlen p0) ∧ (
    Q (cG σ (16 * p0 + (cD σ p0).toNatClampNeg)) σ)) ∧
  (¬ 0 ≤ (cD σ p0) →
    Q (0 : Int32) σ)
set_option maxRecDepth 100000 in
set_option maxHeartbeats 4000000 in
theorem wX2_leadSign_0 {p : Program} {l : Launch} {e : Env} {s : State} {m : MethodId} {args : Array Value} {below : List Frame} {meth : Method} {c : Code} {D : va_G} {A : Nat → Prop} {g : mG} (hg : inj g) {p0 : Nat} (hp0 : p0 < 20) (X : cx p m meth c s args cX2_leadSign 1 RX2 D (tyG g)) (hr : meth.sig.returnType = (some .int)) {Q : Int32 → CS → Prop} : ∀ (σ : CS), wpX2_leadSign_0 p0 Q σ → cW p l e rmX2_leadSign s m args below meth c (MQ below (va_Qi Q (fun u t => wd D A (cT g u) t.heap) A) args s 0 0 A) D A (cT g σ) 0 1 [(0, .ref (g.1 (4 * p0 + 2)))] := by
  obtain ⟨hx, hb, hml, hown, hts, hK, hlk⟩ := id X
  intro σ h H locs ls hw hS hl
  unfold wpX2_leadSign_0 at h
  refine lv_aload_n hx hb dX2_leadSign_0 rfl (lv_at hl 0 rfl) ?_
  refine m_get (v := .int (cD σ p0)) X hw (tP hp0) rfl inA_X2 1 (by decide) mw_30 rfl dX2_leadSign_1 ?_
  refine lv_if_ge (tgt := 11) hx hb dX2_leadSign_4 (by decide) (fun hc => ?_) (fun hc => ?_)
  · replace h := h.1 hc
    refine lv_aload_n hx hb dX2_leadSign_11 rfl (lv_at hl 0 rfl) ?_
    refine m_get (v := .ref (g.1 (4 * p0 + 3))) X hw (tP hp0) rfl inA_X2 0 (by decide) mw_27 rfl dX2_leadSign_12 ?_
    refine lv_aload_n hx hb dX2_leadSign_15 rfl (lv_at hl 0 rfl) ?_
    refine m_get (v := .int (cD σ p0)) X hw (tP hp0) rfl inA_X2 1 (by decide) mw_30 rfl dX2_leadSign_16 ?_
    obtain ⟨hi1, h⟩ := h
    refine m_aald X hw (tT hp0) 2 rfl hi1 dX2_leadSign_19 ?_
    refine m_getN (v := .int (cG σ (16 * p0 + (cD σ p0).toNatClampNeg))) X hw (tW (okW_t hp0 hi1)) rfl inA_X3 2 (by decide) (List.mem_append_left _ (List.mem_map.mpr ⟨_, List.mem_of_getElem? (i := 16) rfl, rfl⟩)) rfl dX2_leadSign_20 ?_
    exact m_iret X hr hw hS h dX2_leadSign_23
  · replace h := h.2 hc
    refine lv_iconst (v := (0 : Int32)) hx hb dX2_leadSign_7 (by decide) ?_
    refine lv_goto (tgt := 23) hx hb dX2_leadSign_8 (by decide) ?_
    exact m_iret X hr hw hS h dX2_leadSign_23
def wpX2_leadSign (p0 : Nat) (σ : CS) (Q : Int32 → CS → Prop) : Prop := wpX2_leadSign_0 p0 Q σ
theorem kX2_leadSign {l : Launch} {D : va_G} {A : Nat → Prop} {g : mG} (hg : inj g) {p0 : Nat} (hp0 : p0 < 20) {σ : CS} {Q : Int32 → CS → Prop} (h : wpX2_leadSign p0 σ Q) : Met l yX2_leadSign (Cond.code yX2_leadSign cX2_leadSign 1 (some .int) :: wsA) rmX2_leadSign (mPc D (tyG g) A (cT g σ) [.ref (g.1 (4 * p0 + 2))]) (va_Qi Q (fun u t => wd D A (cT g u) t.heap) A) 0 0 A :=
  m_met (by decide +kernel) (Nat.le_of_ble_eq_true rfl) (fun p e s m below meth c X hr H locs ls hw hS hl => wX2_leadSign_0 hg hp0 X hr σ h H locs ls hw hS (lv_sub hl [0] rfl))
theorem fX2_leadSign : vfit yX2_leadSign cX2_leadSign 1 (some .int) 0 := ⟨mw_332, mw_333, mw_15, mw_334, by decide +kernel, by decide +kernel, by decide +kernel⟩
/-! BigPolys$Poly.signBeyond(J)I -/
def rmX2_signBeyond : Room := { frames := 1, cells := 0, slots := 0, locals := 20 }
def wpX2_signBeyond_23 (p0 : Nat) (y1 : Int64) (Q : Int32 → CS → Prop) (σ : CS) : Prop :=
  wpX2_leadSign p0 σ (fun (r1 : Int32) (σ2 : CS) =>
    Q r1 σ2)
set_option maxRecDepth 100000 in
set_option maxHeartbeats 4000000 in
theorem wX2_signBeyond_23 {p : Program} {l : Launch} {e : Env} {s : State} {m : MethodId} {args : Array Value} {below : List Frame} {meth : Method} {c : Code} {D : va_G} {A : Nat → Prop} {g : mG} (hg : inj g) {p0 : Nat} {y1 : Int64} (hp0 : p0 < 20) (X : cx p m meth c s args cX2_signBeyond 3 RX2 D (tyG g)) (hr : meth.sig.returnType = (some .int)) {Q : Int32 → CS → Prop} : ∀ (σ : CS), wpX2_signBeyond_23 p0 y1 Q σ → cW p l e rmX2_signBeyond s m args below meth c (MQ below (va_Qi Q (fun u t => wd D A (cT g u) t.heap) A) args s 0 0 A) D A (cT g σ) 23 3 [(0, .ref (g.1 (4 * p0 + 2))), (1, .long y1)] := by
  obtain ⟨hx, hb, hml, hown, hts, hK, hlk⟩ := id X
  intro σ h H locs ls hw hS hl
  unfold wpX2_signBeyond_23 at h
  refine lv_aload_n hx hb dX2_signBeyond_23 rfl (lv_at hl 0 rfl) ?_
  refine m_cVi (TT := cT g) (As := []) (rest := []) X hl.1 hw hS (kX2_leadSign hg hp0 h) mw_538 fX2_leadSign (tP hp0) rfl rfl ⟨rfl, rfl, Nat.le_of_ble_eq_true rfl, Nat.le_of_ble_eq_true rfl⟩ rfl rfl (Nat.le_of_ble_eq_true rfl) dX2_signBeyond_24 (fun r1 σ2 H locs h hw hS => ?_)
  exact m_iret X hr hw hS h dX2_signBeyond_27
def wpX2_signBeyond_0 (p0 : Nat) (y1 : Int64) (Q : Int32 → CS → Prop) (σ : CS) : Prop :=
  (0 ≤ (lg_cmp y1 (0 : Int64)) →
    wpX2_signBeyond_23 p0 y1 Q σ) ∧
  (¬ 0 ≤ (lg_cmp y1 (0 : Int64)) →
    (((cD σ p0) - (cD σ p0) / (2 : Int32) * (2 : Int32)) = 0 →
      wpX2_signBeyond_23 p0 y1 Q σ) ∧
    (¬ ((cD σ p0) - (cD σ p0) / (2 : Int32) * (2 : Int32)) = 0 →
      wpX2_leadSign p0 σ (fun (r3 : Int32) (σ4 : CS) =>
        Q (-r3) σ4)))
set_option maxRecDepth 100000 in
set_option maxHeartbeats 4000000 in
theorem wX2_signBeyond_0 {p : Program} {l : Launch} {e : Env} {s : State} {m : MethodId} {args : Array Value} {below : List Frame} {meth : Method} {c : Code} {D : va_G} {A : Nat → Prop} {g : mG} (hg : inj g) {p0 : Nat} {y1 : Int64} (hp0 : p0 < 20) (X : cx p m meth c s args cX2_signBeyond 3 RX2 D (tyG g)) (hr : meth.sig.returnType = (some .int)) {Q : Int32 → CS → Prop} : ∀ (σ : CS), wpX2_signBeyond_0 p0 y1 Q σ → cW p l e rmX2_signBeyond s m args below meth c (MQ below (va_Qi Q (fun u t => wd D A (cT g u) t.heap) A) args s 0 0 A) D A (cT g σ) 0 3 [(0, .ref (g.1 (4 * p0 + 2))), (1, .long y1)] := by
  obtain ⟨hx, hb, hml, hown, hts, hK, hlk⟩ := id X
  intro σ h H locs ls hw hS hl
  unfold wpX2_signBeyond_0 at h
  refine lv_lload_n hx hb dX2_signBeyond_0 rfl (lv_at hl 1 rfl) ?_
  refine lv_lconst (v := (0 : Int64)) hx hb dX2_signBeyond_1 (by decide) ?_
  refine W.lcmp hx hb dX2_signBeyond_2 ?_
  refine lv_if_ge (tgt := 23) hx hb dX2_signBeyond_3 (by decide) (fun hc => ?_) (fun hc => ?_)
  · replace h := h.1 hc
    exact wX2_signBeyond_23 hg hp0 X hr _ h H locs ls hw hS (lv_sub hl [0, 1] rfl)
  · replace h := h.2 hc
    refine lv_aload_n hx hb dX2_signBeyond_6 rfl (lv_at hl 0 rfl) ?_
    refine m_get (v := .int (cD σ p0)) X hw (tP hp0) rfl inA_X2 1 (by decide) mw_30 rfl dX2_signBeyond_7 ?_
    refine lv_iconst (v := (2 : Int32)) hx hb dX2_signBeyond_10 (by decide) ?_
    refine lv_irem hx hb dX2_signBeyond_11 (by decide) ?_
    refine lv_if_eq (tgt := 23) hx hb dX2_signBeyond_12 (by decide) (fun hc => ?_) (fun hc => ?_)
    · replace h := h.1 hc
      exact wX2_signBeyond_23 hg hp0 X hr _ h H locs ls hw hS (lv_sub hl [0, 1] rfl)
    · replace h := h.2 hc
      refine lv_aload_n hx hb dX2_signBeyond_15 rfl (lv_at hl 0 rfl) ?_
      refine m_cVi (TT := cT g) (As := []) (rest := []) X hl.1 hw hS (kX2_leadSign hg hp0 h) mw_538 fX2_leadSign (tP hp0) rfl rfl ⟨rfl, rfl, Nat.le_of_ble_eq_true rfl, Nat.le_of_ble_eq_true rfl⟩ rfl rfl (Nat.le_of_ble_eq_true rfl) dX2_signBeyond_16 (fun r3 σ4 H locs h hw hS => ?_)
      refine lv_ineg hx hb dX2_signBeyond_19 ?_
      refine lv_goto (tgt := 27) hx hb dX2_signBeyond_20 (by decide) ?_
      exact m_iret X hr hw hS h dX2_signBeyond_27
def wpX2_signBeyond (p0 : Nat) (y1 : Int64) (σ : CS) (Q : Int32 → CS → Prop) : Prop := wpX2_signBeyond_0 p0 y1 Q σ
theorem kX2_signBeyond {l : Launch} {D : va_G} {A : Nat → Prop} {g : mG} (hg : inj g) {p0 : Nat} {y1 : Int64} (hp0 : p0 < 20) {σ : CS} {Q : Int32 → CS → Prop} (h : wpX2_signBeyond p0 y1 σ Q) : Met l yX2_signBeyond (Cond.code yX2_signBeyond cX2_signBeyond 3 (some .int) :: wsA) rmX2_signBeyond (mPc D (tyG g) A (cT g σ) [.ref (g.1 (4 * p0 + 2)), .long y1]) (va_Qi Q (fun u t => wd D A (cT g u) t.heap) A) 0 0 A :=
  m_met (by decide +kernel) (Nat.le_of_ble_eq_true rfl) (fun p e s m below meth c X hr H locs ls hw hS hl => wX2_signBeyond_0 hg hp0 X hr σ h H locs ls hw hS (lv_sub hl [0, 1] rfl))
theorem fX2_signBeyond : vfit yX2_signBeyond cX2_signBeyond 3 (some .int) 1 := ⟨mw_535, mw_536, mw_15, mw_537, by decide +kernel, by decide +kernel, by decide +kernel⟩
/-! BigPolys$Poly.fits()Z -/
def rmX2_fits : Room := { frames := 0, cells := 0, slots := 0, locals := 0 }
def wpX2_fits_30 (p0 : Nat) (Q : Int32 → CS → Prop) (σ : CS) : Prop :=
  Q (0 : Int32) σ
set_option maxRecDepth 100000 in
set_option maxHeartbeats 4000000 in
theorem wX2_fits_30 {p : Program} {l : Launch} {e : Env} {s : State} {m : MethodId} {args : Array Value} {below : List Frame} {meth : Method} {c : Code} {D : va_G} {A : Nat → Prop} {g : mG} (hg : inj g) {p0 : Nat} (hp0 : p0 < 20) (X : cx p m meth c s args cX2_fits 2 RX2 D (tyG g)) (hr : meth.sig.returnType = (some .boolean)) {Q : Int32 → CS → Prop} : ∀ (σ : CS), wpX2_fits_30 p0 Q σ → cW p l e rmX2_fits s m args below meth c (MQ below (va_Qi Q (fun u t => wd D A (cT g u) t.heap) A) args s 0 0 A) D A (cT g σ) 30 2 [(0, .ref (g.1 (4 * p0 + 2)))] := by
  obtain ⟨hx, hb, hml, hown, hts, hK, hlk⟩ := id X
  intro σ h H locs ls hw hS hl
  unfold wpX2_fits_30 at h
  refine lv_iconst (v := (0 : Int32)) hx hb dX2_fits_30 (by decide) ?_
  exact m_zret X hr rfl hw hS h dX2_fits_31
def wbX2_fits_2 (p0 : Nat) (Q : Int32 → CS → Prop) (N2 : Int32 → CS → Prop) (i1 : Int32) (σ : CS) : Prop :=
  ((cD σ p0) < i1 →
    Q (1 : Int32) σ) ∧
  (¬ (cD σ p0) < i1 →
    ((8 : Int32) < i1 →
      wpX2_fits_30 p0 Q σ) ∧
    (¬ (8 : Int32) < i1 →
      vp_in i1 (tlen p0) ∧ (
      ((cS σ (16 * p0 + i1.toNatClampNeg)) ≤ (6 : Int32) →
        ∀ a2 : Int32, a2 = i1 + (1 : Int32) →
        N2 a2 σ) ∧
      (¬ (cS σ (16 * p0 + i1.toNatClampNeg)) ≤ (6 : Int32) →
        wpX2_fits_30 p0 Q σ))))
set_option maxRecDepth 100000 in
set_option maxHeartbeats 4000000 in
theorem wX2_fits_2 {p : Program} {l : Launch} {e : Env} {s : State} {m : MethodId} {args : Array Value} {below : List Frame} {meth : Method} {c : Code} {D : va_G} {A : Nat → Prop} {g : mG} (hg : inj g) {p0 : Nat} (hp0 : p0 < 20) (X : cx p m meth c s args cX2_fits 2 RX2 D (tyG g)) (hr : meth.sig.returnType = (some .boolean)) {Q : Int32 → CS → Prop} : ∀ (n : Nat) (i1 : Int32) (σ : CS), lq2 (wbX2_fits_2 p0 Q) n i1 σ → cW p l e rmX2_fits s m args below meth c (MQ below (va_Qi Q (fun u t => wd D A (cT g u) t.heap) A) args s 0 0 A) D A (cT g σ) 2 2 [(0, .ref (g.1 (4 * p0 + 2))), (1, .int i1)] := by
  obtain ⟨hx, hb, hml, hown, hts, hK, hlk⟩ := id X
  intro n
  induction n with
  | zero =>
    intro i1 σ h
    exact h.elim
  | succ n hN2 =>
    intro i1 σ h H locs ls hw hS hl
    replace h : wbX2_fits_2 p0 Q (lq2 (wbX2_fits_2 p0 Q) n) i1 σ := h
    unfold wbX2_fits_2 at h
    refine lv_iload_n hx hb dX2_fits_2 rfl (lv_at hl 1 rfl) ?_
    refine lv_aload_n hx hb dX2_fits_3 rfl (lv_at hl 0 rfl) ?_
    refine m_get (v := .int (cD σ p0)) X hw (tP hp0) rfl inA_X2 1 (by decide) mw_30 rfl dX2_fits_4 ?_
    refine lv_icmp_gt (tgt := 38) hx hb dX2_fits_7 (by decide) (fun hc => ?_) (fun hc => ?_)
    · replace h := h.1 hc
      refine lv_iconst (v := (1 : Int32)) hx hb dX2_fits_38 (by decide) ?_
      exact m_zret X hr rfl hw hS h dX2_fits_39
    · replace h := h.2 hc
      refine lv_iload_n hx hb dX2_fits_10 rfl (lv_at hl 1 rfl) ?_
      refine lv_bipush (v := (8 : Int32)) hx hb dX2_fits_11 (by decide) ?_
      refine lv_icmp_gt (tgt := 30) hx hb dX2_fits_13 (by decide) (fun hc => ?_) (fun hc => ?_)
      · replace h := h.1 hc
        exact wX2_fits_30 hg hp0 X hr _ h H locs ls hw hS (lv_sub hl [0] rfl)
      · replace h := h.2 hc
        refine lv_aload_n hx hb dX2_fits_16 rfl (lv_at hl 0 rfl) ?_
        refine m_get (v := .ref (g.1 (4 * p0 + 3))) X hw (tP hp0) rfl inA_X2 0 (by decide) mw_27 rfl dX2_fits_17 ?_
        refine lv_iload_n hx hb dX2_fits_20 rfl (lv_at hl 1 rfl) ?_
        obtain ⟨hi1, h⟩ := h
        refine m_aald X hw (tT hp0) 2 rfl hi1 dX2_fits_21 ?_
        refine m_getN (v := .int (cS σ (16 * p0 + i1.toNatClampNeg))) X hw (tW (okW_t hp0 hi1)) rfl inA_X3 1 (by decide) (List.mem_append_left _ (List.mem_map.mpr ⟨_, List.mem_of_getElem? (i := 17) rfl, rfl⟩)) rfl dX2_fits_22 ?_
        refine lv_bipush (v := (6 : Int32)) hx hb dX2_fits_25 (by decide) ?_
        refine lv_icmp_le (tgt := 32) hx hb dX2_fits_27 (by decide) (fun hc => ?_) (fun hc => ?_)
        · replace h := h.1 hc
          obtain ⟨a2, ea2⟩ : ∃ z : Int32, z = i1 + (1 : Int32) := ⟨_, rfl⟩
          replace h := h a2 ea2
          refine lv_iinc (v := a2) (lv' := [(1, .int a2), (0, .ref (g.1 (4 * p0 + 2)))]) hx hb dX2_fits_32 hl (k := 1) rfl (by rw [ea2]; rfl) (by decide) rfl (fun ls hl => ?_)
          refine lv_goto (tgt := 2) hx hb dX2_fits_35 (by decide) ?_
          exact hN2 a2 _ h H locs ls hw hS (lv_sub hl [1, 0] rfl)
        · replace h := h.2 hc
          exact wX2_fits_30 hg hp0 X hr _ h H locs ls hw hS (lv_sub hl [0] rfl)
def wpX2_fits_0 (p0 : Nat) (Q : Int32 → CS → Prop) (σ : CS) : Prop :=
  ∃ n, lq2 (wbX2_fits_2 p0 Q) n (0 : Int32) σ
set_option maxRecDepth 100000 in
set_option maxHeartbeats 4000000 in
theorem wX2_fits_0 {p : Program} {l : Launch} {e : Env} {s : State} {m : MethodId} {args : Array Value} {below : List Frame} {meth : Method} {c : Code} {D : va_G} {A : Nat → Prop} {g : mG} (hg : inj g) {p0 : Nat} (hp0 : p0 < 20) (X : cx p m meth c s args cX2_fits 2 RX2 D (tyG g)) (hr : meth.sig.returnType = (some .boolean)) {Q : Int32 → CS → Prop} : ∀ (σ : CS), wpX2_fits_0 p0 Q σ → cW p l e rmX2_fits s m args below meth c (MQ below (va_Qi Q (fun u t => wd D A (cT g u) t.heap) A) args s 0 0 A) D A (cT g σ) 0 2 [(0, .ref (g.1 (4 * p0 + 2)))] := by
  obtain ⟨hx, hb, hml, hown, hts, hK, hlk⟩ := id X
  intro σ h H locs ls hw hS hl
  unfold wpX2_fits_0 at h
  refine lv_iconst (v := (0 : Int32)) hx hb dX2_fits_0 (by decide) ?_
  refine lv_istore_n (lv' := [(1, .int (0 : Int32)), (0, .ref (g.1 (4 * p0 + 2)))]) hx hb dX2_fits_1 rfl hl (by decide) rfl (fun ls hl => ?_)
  obtain ⟨n9, h⟩ := h
  exact wX2_fits_2 hg hp0 X hr n9 (0 : Int32) _ h H locs ls hw hS (lv_sub hl [1, 0] rfl)
def wpX2_fits (p0 : Nat) (σ : CS) (Q : Int32 → CS → Prop) : Prop := wpX2_fits_0 p0 Q σ
theorem kX2_fits {l : Launch} {D : va_G} {A : Nat → Prop} {g : mG} (hg : inj g) {p0 : Nat} (hp0 : p0 < 20) {σ : CS} {Q : Int32 → CS → Prop} (h : wpX2_fits p0 σ Q) : Met l yX2_fits (Cond.code yX2_fits cX2_fits 2 (some .boolean) :: wsA) rmX2_fits (mPc D (tyG g) A (cT g σ) [.ref (g.1 (4 * p0 + 2))]) (va_Qi Q (fun u t => wd D A (cT g u) t.heap) A) 0 0 A :=
  m_met (by decide +kernel) (Nat.le_of_ble_eq_true rfl) (fun p e s m below meth c X hr H locs ls hw hS hl => wX2_fits_0 hg hp0 X hr σ h H locs ls hw hS (lv_sub hl [0] rfl))
theorem fX2_fits : vfit yX2_fits cX2_fits 2 (some .boolean) 0 := ⟨mw_223, mw_224, mw_15, mw_225, by decide +kernel, by decide +kernel, by decide +kernel⟩
/-! BigPolys$Poly.isLike(LBigPolys$Poly;)Z -/
def rmX2_isLike : Room := { frames := 2, cells := 0, slots := 0, locals := 43 }
def wbX2_isLike_15 (p0 : Nat) (p1 : Nat) (Q : Int32 → CS → Prop) (N15 : Int32 → CS → Prop) (i2 : Int32) (σ : CS) : Prop :=
  ((cD σ p0) < i2 →
    Q (1 : Int32) σ) ∧
  (¬ (cD σ p0) < i2 →
    vp_in i2 (tlen p0) ∧ (
    vp_in i2 (tlen p1) ∧ (
    wpX3_isLike (16 * p0 + i2.toNatClampNeg) (16 * p1 + i2.toNatClampNeg) σ (fun (r3 : Int32) (σ4 : CS) =>
      (¬ r3 = 0 →
        ∀ a5 : Int32, a5 = i2 + (1 : Int32) →
        N15 a5 σ4) ∧
      (r3 = 0 →
        Q (0 : Int32) σ4)))))
set_option maxRecDepth 100000 in
set_option maxHeartbeats 4000000 in
theorem wX2_isLike_15 {p : Program} {l : Launch} {e : Env} {s : State} {m : MethodId} {args : Array Value} {below : List Frame} {meth : Method} {c : Code} {D : va_G} {A : Nat → Prop} {g : mG} (hg : inj g) {p0 : Nat} {p1 : Nat} (hp0 : p0 < 20) (hp1 : p1 < 20) (X : cx p m meth c s args cX2_isLike 3 RX2 D (tyG g)) (hr : meth.sig.returnType = (some .boolean)) {Q : Int32 → CS → Prop} : ∀ (n : Nat) (i2 : Int32) (σ : CS), lq2 (wbX2_isLike_15 p0 p1 Q) n i2 σ → cW p l e rmX2_isLike s m args below meth c (MQ below (va_Qi Q (fun u t => wd D A (cT g u) t.heap) A) args s 0 0 A) D A (cT g σ) 15 3 [(0, .ref (g.1 (4 * p0 + 2))), (1, .ref (g.1 (4 * p1 + 2))), (2, .int i2)] := by
  obtain ⟨hx, hb, hml, hown, hts, hK, hlk⟩ := id X
  intro n
  induction n with
  | zero =>
    intro i2 σ h
    exact h.elim
  | succ n hN15 =>
    intro i2 σ h H locs ls hw hS hl
    replace h : wbX2_isLike_15 p0 p1 Q (lq2 (wbX2_isLike_15 p0 p1 Q) n) i2 σ := h
    unfold wbX2_isLike_15 at h
    refine lv_iload_n hx hb dX2_isLike_15 rfl (lv_at hl 2 rfl) ?_
    refine lv_aload_n hx hb dX2_isLike_16 rfl (lv_at hl 0 rfl) ?_
    refine m_get (v := .int (cD σ p0)) X hw (tP hp0) rfl inA_X2 1 (by decide) mw_30 rfl dX2_isLike_17 ?_
    refine lv_icmp_gt (tgt := 49) hx hb dX2_isLike_20 (by decide) (fun hc => ?_) (fun hc => ?_)
    · replace h := h.1 hc
      refine lv_iconst (v := (1 : Int32)) hx hb dX2_isLike_49 (by decide) ?_
      exact m_zret X hr rfl hw hS h dX2_isLike_50
    · replace h := h.2 hc
      refine lv_aload_n hx hb dX2_isLike_23 rfl (lv_at hl 0 rfl) ?_
      refine m_get (v := .ref (g.1 (4 * p0 + 3))) X hw (tP hp0) rfl inA_X2 0 (by decide) mw_27 rfl dX2_isLike_24 ?_
      refine lv_iload_n hx hb dX2_isLike_27 rfl (lv_at hl 2 rfl) ?_
      obtain ⟨hi1, h⟩ := h
      refine m_aald X hw (tT hp0) 2 rfl hi1 dX2_isLike_28 ?_
      refine lv_aload_n hx hb dX2_isLike_29 rfl (lv_at hl 1 rfl) ?_
      refine m_get (v := .ref (g.1 (4 * p1 + 3))) X hw (tP hp1) rfl inA_X2 0 (by decide) mw_27 rfl dX2_isLike_30 ?_
      refine lv_iload_n hx hb dX2_isLike_33 rfl (lv_at hl 2 rfl) ?_
      obtain ⟨hi2, h⟩ := h
      refine m_aald X hw (tT hp1) 2 rfl hi2 dX2_isLike_34 ?_
      refine m_cVi (TT := cT g) (As := [.ref (g.1 (4 * (16 * p1 + i2.toNatClampNeg)))]) (rest := []) X hl.1 hw hS (kX3_isLike hg (okW_t hp0 hi1) (okW_t hp1 hi2) h) mw_637 fX3_isLike (tW (okW_t hp0 hi1)) rfl rfl ⟨rfl, rfl, Nat.le_of_ble_eq_true rfl, Nat.le_of_ble_eq_true rfl⟩ rfl rfl (Nat.le_of_ble_eq_true rfl) dX2_isLike_35 (fun r3 σ4 H locs h hw hS => ?_)
      refine lv_if_ne (tgt := 43) hx hb dX2_isLike_38 (by decide) (fun hc => ?_) (fun hc => ?_)
      · replace h := h.1 hc
        obtain ⟨a5, ea5⟩ : ∃ z : Int32, z = i2 + (1 : Int32) := ⟨_, rfl⟩
        replace h := h a5 ea5
        refine lv_iinc (v := a5) (lv' := [(2, .int a5), (0, .ref (g.1 (4 * p0 + 2))), (1, .ref (g.1 (4 * p1 + 2)))]) hx hb dX2_isLike_43 hl (k := 2) rfl (by rw [ea5]; rfl) (by decide) rfl (fun ls hl => ?_)
        refine lv_goto (tgt := 15) hx hb dX2_isLike_46 (by decide) ?_
        exact hN15 a5 _ h H locs ls hw hS (lv_sub hl [1, 2, 0] rfl)
      · replace h := h.2 hc
        refine lv_iconst (v := (0 : Int32)) hx hb dX2_isLike_41 (by decide) ?_
        exact m_zret X hr rfl hw hS h dX2_isLike_42
def wpX2_isLike_0 (p0 : Nat) (p1 : Nat) (Q : Int32 → CS → Prop) (σ : CS) : Prop :=
  ((cD σ p0) = (cD σ p1) →
    ∃ n, lq2 (wbX2_isLike_15 p0 p1 Q) n (0 : Int32) σ) ∧
  (¬ (cD σ p0) = (cD σ p1) →
    Q (0 : Int32) σ)
set_option maxRecDepth 100000 in
set_option maxHeartbeats 4000000 in
theorem wX2_isLike_0 {p : Program} {l : Launch} {e : Env} {s : State} {m : MethodId} {args : Array Value} {below : List Frame} {meth : Method} {c : Code} {D : va_G} {A : Nat → Prop} {g : mG} (hg : inj g) {p0 : Nat} {p1 : Nat} (hp0 : p0 < 20) (hp1 : p1 < 20) (X : cx p m meth c s args cX2_isLike 3 RX2 D (tyG g)) (hr : meth.sig.returnType = (some .boolean)) {Q : Int32 → CS → Prop} : ∀ (σ : CS), wpX2_isLike_0 p0 p1 Q σ → cW p l e rmX2_isLike s m args below meth c (MQ below (va_Qi Q (fun u t => wd D A (cT g u) t.heap) A) args s 0 0 A) D A (cT g σ) 0 3 [(0, .ref (g.1 (4 * p0 + 2))), (1, .ref (g.1 (4 * p1 + 2)))] := by
  obtain ⟨hx, hb, hml, hown, hts, hK, hlk⟩ := id X
  intro σ h H locs ls hw hS hl
  unfold wpX2_isLike_0 at h
  refine lv_aload_n hx hb dX2_isLike_0 rfl (lv_at hl 0 rfl) ?_
  refine m_get (v := .int (cD σ p0)) X hw (tP hp0) rfl inA_X2 1 (by decide) mw_30 rfl dX2_isLike_1 ?_
  refine lv_aload_n hx hb dX2_isLike_4 rfl (lv_at hl 1 rfl) ?_
  refine m_get (v := .int (cD σ p1)) X hw (tP hp1) rfl inA_X2 1 (by decide) mw_30 rfl dX2_isLike_5 ?_
  refine lv_icmp_eq (tgt := 13) hx hb dX2_isLike_8 (by decide) (fun hc => ?_) (fun hc => ?_)
  · replace h := h.1 hc
    refine lv_iconst (v := (0 : Int32)) hx hb dX2_isLike_13 (by decide) ?_
    refine lv_istore_n (lv' := [(2, .int (0 : Int32)), (0, .ref (g.1 (4 * p0 + 2))), (1, .ref (g.1 (4 * p1 + 2)))]) hx hb dX2_isLike_14 rfl hl (by decide) rfl (fun ls hl => ?_)
    obtain ⟨n9, h⟩ := h
    exact wX2_isLike_15 hg hp0 hp1 X hr n9 (0 : Int32) _ h H locs ls hw hS (lv_sub hl [1, 2, 0] rfl)
  · replace h := h.2 hc
    refine lv_iconst (v := (0 : Int32)) hx hb dX2_isLike_11 (by decide) ?_
    exact m_zret X hr rfl hw hS h dX2_isLike_12
def wpX2_isLike (p0 : Nat) (p1 : Nat) (σ : CS) (Q : Int32 → CS → Prop) : Prop := wpX2_isLike_0 p0 p1 Q σ
theorem kX2_isLike {l : Launch} {D : va_G} {A : Nat → Prop} {g : mG} (hg : inj g) {p0 : Nat} {p1 : Nat} (hp0 : p0 < 20) (hp1 : p1 < 20) {σ : CS} {Q : Int32 → CS → Prop} (h : wpX2_isLike p0 p1 σ Q) : Met l yX2_isLike (Cond.code yX2_isLike cX2_isLike 3 (some .boolean) :: wsA) rmX2_isLike (mPc D (tyG g) A (cT g σ) [.ref (g.1 (4 * p0 + 2)), .ref (g.1 (4 * p1 + 2))]) (va_Qi Q (fun u t => wd D A (cT g u) t.heap) A) 0 0 A :=
  m_met (by decide +kernel) (Nat.le_of_ble_eq_true rfl) (fun p e s m below meth c X hr H locs ls hw hS hl => wX2_isLike_0 hg hp0 hp1 X hr σ h H locs ls hw hS (lv_sub hl [0, 1] rfl))
theorem fX2_isLike : vfit yX2_isLike cX2_isLike 3 (some .boolean) 1 := ⟨mw_634, mw_635, mw_15, mw_636, by decide +kernel, by decide +kernel, by decide +kernel⟩
