/-! BigPolys.isRegister(I)Z -/
def rmX4_isRegister : Room := { frames := 0, cells := 0, slots := 0, locals := 0 }
def wpX4_isRegister_14 (x1 : Int32) (Q : Int32 → CS → Prop) (σ : CS) : Prop :=
  Q (0 : Int32) σ
set_option maxRecDepth 100000 in
set_option maxHeartbeats 4000000 in
theorem wX4_isRegister_14 {p : Program} {l : Launch} {e : Env} {s : State} {m : MethodId} {args : Array Value} {below : List Frame} {meth : Method} {c : Code} {D : va_G} {A : Nat → Prop} {g : mG} (hg : inj g) {x1 : Int32} (X : cx p m meth c s args cX4_isRegister 1 RX4 D (tyG g)) (hr : meth.sig.returnType = (some .boolean)) {Q : Int32 → CS → Prop} : ∀ (σ : CS), wpX4_isRegister_14 x1 Q σ → cW p l e rmX4_isRegister s m args below meth c (MQ below (va_Qi Q (fun u t => wd D A (cT g u) t.heap) A) args s 0 0 A) D A (cT g σ) 14 1 [(0, .int x1)] := by
  obtain ⟨hx, hb, hml, hown, hts, hK, hlk⟩ := id X
  intro σ h H locs ls hw hS hl
  unfold wpX4_isRegister_14 at h
  refine lv_iconst (v := (0 : Int32)) hx hb dX4_isRegister_14 (by decide) ?_
  exact m_zret X hr rfl hw hS h dX4_isRegister_15
def wpX4_isRegister_0 (x1 : Int32) (Q : Int32 → CS → Prop) (σ : CS) : Prop :=
  (x1 < 0 →
    wpX4_isRegister_14 x1 Q σ) ∧
  (¬ x1 < 0 →
    ((8 : Int32) ≤ x1 →
      wpX4_isRegister_14 x1 Q σ) ∧
    (¬ (8 : Int32) ≤ x1 →
      Q (1 : Int32) σ))
set_option maxRecDepth 100000 in
set_option maxHeartbeats 4000000 in
theorem wX4_isRegister_0 {p : Program} {l : Launch} {e : Env} {s : State} {m : MethodId} {args : Array Value} {below : List Frame} {meth : Method} {c : Code} {D : va_G} {A : Nat → Prop} {g : mG} (hg : inj g) {x1 : Int32} (X : cx p m meth c s args cX4_isRegister 1 RX4 D (tyG g)) (hr : meth.sig.returnType = (some .boolean)) {Q : Int32 → CS → Prop} : ∀ (σ : CS), wpX4_isRegister_0 x1 Q σ → cW p l e rmX4_isRegister s m args below meth c (MQ below (va_Qi Q (fun u t => wd D A (cT g u) t.heap) A) args s 0 0 A) D A (cT g σ) 0 1 [(0, .int x1)] := by
  obtain ⟨hx, hb, hml, hown, hts, hK, hlk⟩ := id X
  intro σ h H locs ls hw hS hl
  unfold wpX4_isRegister_0 at h
  refine lv_iload_n hx hb dX4_isRegister_0 rfl (lv_at hl 0 rfl) ?_
  refine lv_if_lt (tgt := 14) hx hb dX4_isRegister_1 (by decide) (fun hc => ?_) (fun hc => ?_)
  · replace h := h.1 hc
    exact wX4_isRegister_14 hg X hr _ h H locs ls hw hS (lv_sub hl [0] rfl)
  · replace h := h.2 hc
    refine lv_iload_n hx hb dX4_isRegister_4 rfl (lv_at hl 0 rfl) ?_
    refine lv_bipush (v := (8 : Int32)) hx hb dX4_isRegister_5 (by decide) ?_
    refine lv_icmp_ge (tgt := 14) hx hb dX4_isRegister_7 (by decide) (fun hc => ?_) (fun hc => ?_)
    · replace h := h.1 hc
      exact wX4_isRegister_14 hg X hr _ h H locs ls hw hS (lv_sub hl [0] rfl)
    · replace h := h.2 hc
      refine lv_iconst (v := (1 : Int32)) hx hb dX4_isRegister_10 (by decide) ?_
      refine lv_goto (tgt := 15) hx hb dX4_isRegister_11 (by decide) ?_
      exact m_zret X hr rfl hw hS h dX4_isRegister_15
def wpX4_isRegister (x1 : Int32) (σ : CS) (Q : Int32 → CS → Prop) : Prop := wpX4_isRegister_0 x1 Q σ
theorem kX4_isRegister {l : Launch} {D : va_G} {A : Nat → Prop} {g : mG} (hg : inj g) {x1 : Int32} {σ : CS} {Q : Int32 → CS → Prop} (h : wpX4_isRegister x1 σ Q) : Met l yX4_isRegister (Cond.code yX4_isRegister cX4_isRegister 1 (some .boolean) :: wsA) rmX4_isRegister (mPc D (tyG g) A (cT g σ) [.int x1]) (va_Qi Q (fun u t => wd D A (cT g u) t.heap) A) 0 0 A :=
  m_met (by decide +kernel) (Nat.le_of_ble_eq_true rfl) (fun p e s m below meth c X hr H locs ls hw hS hl => wX4_isRegister_0 hg X hr σ h H locs ls hw hS (lv_sub hl [0] rfl))
theorem fX4_isRegister : sfit yX4_isRegister cX4_isRegister 1 (some .boolean) 1 := ⟨mw_94, mw_2, mw_95, by decide +kernel, by decide +kernel, by decide +kernel⟩
/-! BigPolys.areRegisters(III)Z -/
def rmX4_areRegisters : Room := { frames := 1, cells := 0, slots := 0, locals := 20 }
def wpX4_areRegisters_25 (x1 : Int32) (x2 : Int32) (x3 : Int32) (Q : Int32 → CS → Prop) (σ : CS) : Prop :=
  Q (0 : Int32) σ
set_option maxRecDepth 100000 in
set_option maxHeartbeats 4000000 in
theorem wX4_areRegisters_25 {p : Program} {l : Launch} {e : Env} {s : State} {m : MethodId} {args : Array Value} {below : List Frame} {meth : Method} {c : Code} {D : va_G} {A : Nat → Prop} {g : mG} (hg : inj g) {x1 : Int32} {x2 : Int32} {x3 : Int32} (X : cx p m meth c s args cX4_areRegisters 3 RX4 D (tyG g)) (hr : meth.sig.returnType = (some .boolean)) {Q : Int32 → CS → Prop} : ∀ (σ : CS), wpX4_areRegisters_25 x1 x2 x3 Q σ → cW p l e rmX4_areRegisters s m args below meth c (MQ below (va_Qi Q (fun u t => wd D A (cT g u) t.heap) A) args s 0 0 A) D A (cT g σ) 25 3 [(0, .int x1), (1, .int x2), (2, .int x3)] := by
  obtain ⟨hx, hb, hml, hown, hts, hK, hlk⟩ := id X
  intro σ h H locs ls hw hS hl
  unfold wpX4_areRegisters_25 at h
  refine lv_iconst (v := (0 : Int32)) hx hb dX4_areRegisters_25 (by decide) ?_
  exact m_zret X hr rfl hw hS h dX4_areRegisters_26
def wpX4_areRegisters_0 (x1 : Int32) (x2 : Int32) (x3 : Int32) (Q : Int32 → CS → Prop) (σ : CS) : Prop :=
  wpX4_isRegister x1 σ (fun (r1 : Int32) (σ2 : CS) =>
    (r1 = 0 →
      wpX4_areRegisters_25 x1 x2 x3 Q σ2) ∧
    (¬ r1 = 0 →
      wpX4_isRegister x2 σ2 (fun (r3 : Int32) (σ4 : CS) =>
        (r3 = 0 →
          wpX4_areRegisters_25 x1 x2 x3 Q σ4) ∧
        (¬ r3 = 0 →
          wpX4_isRegister x3 σ4 (fun (r5 : Int32) (σ6 : CS) =>
            (r5 = 0 →
              wpX4_areRegisters_25 x1 x2 x3 Q σ6) ∧
            (¬ r5 = 0 →
              Q (1 : Int32) σ6))))))
set_option maxRecDepth 100000 in
set_option maxHeartbeats 4000000 in
theorem wX4_areRegisters_0 {p : Program} {l : Launch} {e : Env} {s : State} {m : MethodId} {args : Array Value} {below : List Frame} {meth : Method} {c : Code} {D : va_G} {A : Nat → Prop} {g : mG} (hg : inj g) {x1 : Int32} {x2 : Int32} {x3 : Int32} (X : cx p m meth c s args cX4_areRegisters 3 RX4 D (tyG g)) (hr : meth.sig.returnType = (some .boolean)) {Q : Int32 → CS → Prop} : ∀ (σ : CS), wpX4_areRegisters_0 x1 x2 x3 Q σ → cW p l e rmX4_areRegisters s m args below meth c (MQ below (va_Qi Q (fun u t => wd D A (cT g u) t.heap) A) args s 0 0 A) D A (cT g σ) 0 3 [(0, .int x1), (1, .int x2), (2, .int x3)] := by
  obtain ⟨hx, hb, hml, hown, hts, hK, hlk⟩ := id X
  intro σ h H locs ls hw hS hl
  unfold wpX4_areRegisters_0 at h
  refine lv_iload_n hx hb dX4_areRegisters_0 rfl (lv_at hl 0 rfl) ?_
  refine m_cSi (TT := cT g) (As := [.int x1]) (rest := []) X hl.1 hw hS (kX4_isRegister hg h) mw_93 fX4_isRegister ⟨rfl, rfl, Nat.le_of_ble_eq_true rfl, Nat.le_of_ble_eq_true rfl⟩ rfl rfl (Nat.le_of_ble_eq_true rfl) dX4_areRegisters_1 (fun r1 σ2 H locs h hw hS => ?_)
  refine lv_if_eq (tgt := 25) hx hb dX4_areRegisters_4 (by decide) (fun hc => ?_) (fun hc => ?_)
  · replace h := h.1 hc
    exact wX4_areRegisters_25 hg X hr _ h H locs ls hw hS (lv_sub hl [0, 1, 2] rfl)
  · replace h := h.2 hc
    refine lv_iload_n hx hb dX4_areRegisters_7 rfl (lv_at hl 1 rfl) ?_
    refine m_cSi (TT := cT g) (As := [.int x2]) (rest := []) X hl.1 hw hS (kX4_isRegister hg h) mw_93 fX4_isRegister ⟨rfl, rfl, Nat.le_of_ble_eq_true rfl, Nat.le_of_ble_eq_true rfl⟩ rfl rfl (Nat.le_of_ble_eq_true rfl) dX4_areRegisters_8 (fun r3 σ4 H locs h hw hS => ?_)
    refine lv_if_eq (tgt := 25) hx hb dX4_areRegisters_11 (by decide) (fun hc => ?_) (fun hc => ?_)
    · replace h := h.1 hc
      exact wX4_areRegisters_25 hg X hr _ h H locs ls hw hS (lv_sub hl [0, 1, 2] rfl)
    · replace h := h.2 hc
      refine lv_iload_n hx hb dX4_areRegisters_14 rfl (lv_at hl 2 rfl) ?_
      refine m_cSi (TT := cT g) (As := [.int x3]) (rest := []) X hl.1 hw hS (kX4_isRegister hg h) mw_93 fX4_isRegister ⟨rfl, rfl, Nat.le_of_ble_eq_true rfl, Nat.le_of_ble_eq_true rfl⟩ rfl rfl (Nat.le_of_ble_eq_true rfl) dX4_areRegisters_15 (fun r5 σ6 H locs h hw hS => ?_)
      refine lv_if_eq (tgt := 25) hx hb dX4_areRegisters_18 (by decide) (fun hc => ?_) (fun hc => ?_)
      · replace h := h.1 hc
        exact wX4_areRegisters_25 hg X hr _ h H locs ls hw hS (lv_sub hl [0, 1, 2] rfl)
      · replace h := h.2 hc
        refine lv_iconst (v := (1 : Int32)) hx hb dX4_areRegisters_21 (by decide) ?_
        refine lv_goto (tgt := 26) hx hb dX4_areRegisters_22 (by decide) ?_
        exact m_zret X hr rfl hw hS h dX4_areRegisters_26
def wpX4_areRegisters (x1 : Int32) (x2 : Int32) (x3 : Int32) (σ : CS) (Q : Int32 → CS → Prop) : Prop := wpX4_areRegisters_0 x1 x2 x3 Q σ
theorem kX4_areRegisters {l : Launch} {D : va_G} {A : Nat → Prop} {g : mG} (hg : inj g) {x1 : Int32} {x2 : Int32} {x3 : Int32} {σ : CS} {Q : Int32 → CS → Prop} (h : wpX4_areRegisters x1 x2 x3 σ Q) : Met l yX4_areRegisters (Cond.code yX4_areRegisters cX4_areRegisters 3 (some .boolean) :: wsA) rmX4_areRegisters (mPc D (tyG g) A (cT g σ) [.int x1, .int x2, .int x3]) (va_Qi Q (fun u t => wd D A (cT g u) t.heap) A) 0 0 A :=
  m_met (by decide +kernel) (Nat.le_of_ble_eq_true rfl) (fun p e s m below meth c X hr H locs ls hw hS hl => wX4_areRegisters_0 hg X hr σ h H locs ls hw hS (lv_sub hl [0, 1, 2] rfl))
theorem fX4_areRegisters : sfit yX4_areRegisters cX4_areRegisters 3 (some .boolean) 3 := ⟨mw_172, mw_2, mw_173, by decide +kernel, by decide +kernel, by decide +kernel⟩
/-! BigPolys.isCoefficient(II)Z -/
def rmX4_isCoefficient : Room := { frames := 1, cells := 0, slots := 0, locals := 20 }
def wpX4_isCoefficient_21 (x1 : Int32) (x2 : Int32) (Q : Int32 → CS → Prop) (σ : CS) : Prop :=
  Q (0 : Int32) σ
set_option maxRecDepth 100000 in
set_option maxHeartbeats 4000000 in
theorem wX4_isCoefficient_21 {p : Program} {l : Launch} {e : Env} {s : State} {m : MethodId} {args : Array Value} {below : List Frame} {meth : Method} {c : Code} {D : va_G} {A : Nat → Prop} {g : mG} (hg : inj g) {x1 : Int32} {x2 : Int32} (X : cx p m meth c s args cX4_isCoefficient 2 RX4 D (tyG g)) (hr : meth.sig.returnType = (some .boolean)) {Q : Int32 → CS → Prop} : ∀ (σ : CS), wpX4_isCoefficient_21 x1 x2 Q σ → cW p l e rmX4_isCoefficient s m args below meth c (MQ below (va_Qi Q (fun u t => wd D A (cT g u) t.heap) A) args s 0 0 A) D A (cT g σ) 21 2 [(0, .int x1), (1, .int x2)] := by
  obtain ⟨hx, hb, hml, hown, hts, hK, hlk⟩ := id X
  intro σ h H locs ls hw hS hl
  unfold wpX4_isCoefficient_21 at h
  refine lv_iconst (v := (0 : Int32)) hx hb dX4_isCoefficient_21 (by decide) ?_
  exact m_zret X hr rfl hw hS h dX4_isCoefficient_22
def wpX4_isCoefficient_0 (x1 : Int32) (x2 : Int32) (Q : Int32 → CS → Prop) (σ : CS) : Prop :=
  wpX4_isRegister x1 σ (fun (r1 : Int32) (σ2 : CS) =>
    (r1 = 0 →
      wpX4_isCoefficient_21 x1 x2 Q σ2) ∧
    (¬ r1 = 0 →
      (x2 < 0 →
        wpX4_isCoefficient_21 x1 x2 Q σ2) ∧
      (¬ x2 < 0 →
        ((8 : Int32) < x2 →
          wpX4_isCoefficient_21 x1 x2 Q σ2) ∧
        (¬ (8 : Int32) < x2 →
          Q (1 : Int32) σ2))))
set_option maxRecDepth 100000 in
set_option maxHeartbeats 4000000 in
theorem wX4_isCoefficient_0 {p : Program} {l : Launch} {e : Env} {s : State} {m : MethodId} {args : Array Value} {below : List Frame} {meth : Method} {c : Code} {D : va_G} {A : Nat → Prop} {g : mG} (hg : inj g) {x1 : Int32} {x2 : Int32} (X : cx p m meth c s args cX4_isCoefficient 2 RX4 D (tyG g)) (hr : meth.sig.returnType = (some .boolean)) {Q : Int32 → CS → Prop} : ∀ (σ : CS), wpX4_isCoefficient_0 x1 x2 Q σ → cW p l e rmX4_isCoefficient s m args below meth c (MQ below (va_Qi Q (fun u t => wd D A (cT g u) t.heap) A) args s 0 0 A) D A (cT g σ) 0 2 [(0, .int x1), (1, .int x2)] := by
  obtain ⟨hx, hb, hml, hown, hts, hK, hlk⟩ := id X
  intro σ h H locs ls hw hS hl
  unfold wpX4_isCoefficient_0 at h
  refine lv_iload_n hx hb dX4_isCoefficient_0 rfl (lv_at hl 0 rfl) ?_
  refine m_cSi (TT := cT g) (As := [.int x1]) (rest := []) X hl.1 hw hS (kX4_isRegister hg h) mw_93 fX4_isRegister ⟨rfl, rfl, Nat.le_of_ble_eq_true rfl, Nat.le_of_ble_eq_true rfl⟩ rfl rfl (Nat.le_of_ble_eq_true rfl) dX4_isCoefficient_1 (fun r1 σ2 H locs h hw hS => ?_)
  refine lv_if_eq (tgt := 21) hx hb dX4_isCoefficient_4 (by decide) (fun hc => ?_) (fun hc => ?_)
  · replace h := h.1 hc
    exact wX4_isCoefficient_21 hg X hr _ h H locs ls hw hS (lv_sub hl [0, 1] rfl)
  · replace h := h.2 hc
    refine lv_iload_n hx hb dX4_isCoefficient_7 rfl (lv_at hl 1 rfl) ?_
    refine lv_if_lt (tgt := 21) hx hb dX4_isCoefficient_8 (by decide) (fun hc => ?_) (fun hc => ?_)
    · replace h := h.1 hc
      exact wX4_isCoefficient_21 hg X hr _ h H locs ls hw hS (lv_sub hl [0, 1] rfl)
    · replace h := h.2 hc
      refine lv_iload_n hx hb dX4_isCoefficient_11 rfl (lv_at hl 1 rfl) ?_
      refine lv_bipush (v := (8 : Int32)) hx hb dX4_isCoefficient_12 (by decide) ?_
      refine lv_icmp_gt (tgt := 21) hx hb dX4_isCoefficient_14 (by decide) (fun hc => ?_) (fun hc => ?_)
      · replace h := h.1 hc
        exact wX4_isCoefficient_21 hg X hr _ h H locs ls hw hS (lv_sub hl [0, 1] rfl)
      · replace h := h.2 hc
        refine lv_iconst (v := (1 : Int32)) hx hb dX4_isCoefficient_17 (by decide) ?_
        refine lv_goto (tgt := 22) hx hb dX4_isCoefficient_18 (by decide) ?_
        exact m_zret X hr rfl hw hS h dX4_isCoefficient_22
def wpX4_isCoefficient (x1 : Int32) (x2 : Int32) (σ : CS) (Q : Int32 → CS → Prop) : Prop := wpX4_isCoefficient_0 x1 x2 Q σ
theorem kX4_isCoefficient {l : Launch} {D : va_G} {A : Nat → Prop} {g : mG} (hg : inj g) {x1 : Int32} {x2 : Int32} {σ : CS} {Q : Int32 → CS → Prop} (h : wpX4_isCoefficient x1 x2 σ Q) : Met l yX4_isCoefficient (Cond.code yX4_isCoefficient cX4_isCoefficient 2 (some .boolean) :: wsA) rmX4_isCoefficient (mPc D (tyG g) A (cT g σ) [.int x1, .int x2]) (va_Qi Q (fun u t => wd D A (cT g u) t.heap) A) 0 0 A :=
  m_met (by decide +kernel) (Nat.le_of_ble_eq_true rfl) (fun p e s m below meth c X hr H locs ls hw hS hl => wX4_isCoefficient_0 hg X hr σ h H locs ls hw hS (lv_sub hl [0, 1] rfl))
theorem fX4_isCoefficient : sfit yX4_isCoefficient cX4_isCoefficient 2 (some .boolean) 2 := ⟨mw_91, mw_2, mw_92, by decide +kernel, by decide +kernel, by decide +kernel⟩
/-! BigPolys.deliver(ILBigPolys$Poly;)I -/
def rmX4_deliver : Room := { frames := 3, cells := 0, slots := 0, locals := 83 }
def wpX4_deliver_32 (x1 : Int32) (p2 : Nat) (Q : Int32 → CS → Prop) (σ : CS) : Prop :=
  Q (0 : Int32) σ
set_option maxRecDepth 100000 in
set_option maxHeartbeats 4000000 in
theorem wX4_deliver_32 {p : Program} {l : Launch} {e : Env} {s : State} {m : MethodId} {args : Array Value} {below : List Frame} {meth : Method} {c : Code} {D : va_G} {A : Nat → Prop} {g : mG} (hg : inj g) {x1 : Int32} {p2 : Nat} (hp2 : p2 < 20) (X : cx p m meth c s args cX4_deliver 3 RX4 D (tyG g)) (hr : meth.sig.returnType = (some .int)) {Q : Int32 → CS → Prop} : ∀ (σ : CS), wpX4_deliver_32 x1 p2 Q σ → cW p l e rmX4_deliver s m args below meth c (MQ below (va_Qi Q (fun u t => wd D A (cT g u) t.heap) A) args s 0 0 A) D A (cT g σ) 32 3 [(0, .ref (g.1 2010)), (1, .int x1), (2, .ref (g.1 (4 * p2 + 2)))] := by
  obtain ⟨hx, hb, hml, hown, hts, hK, hlk⟩ := id X
  intro σ h H locs ls hw hS hl
  unfold wpX4_deliver_32 at h
  refine lv_iconst (v := (0 : Int32)) hx hb dX4_deliver_32 (by decide) ?_
  exact m_iret X hr hw hS h dX4_deliver_33
def wpX4_deliver_0 (x1 : Int32) (p2 : Nat) (Q : Int32 → CS → Prop) (σ : CS) : Prop :=
  wpX2_fits p2 σ (fun (r1 : Int32) (σ2 : CS) =>
    (¬ r1 = 0 →
      vp_in x1 8 ∧ (
      wpX2_load x1.toNatClampNeg p2 σ2 (fun (σ5 : CS) =>
        (¬ (cK σ5 1) = x1 →
          wpX4_deliver_32 x1 p2 Q σ5) ∧
        ((cK σ5 1) = x1 →
          wpX4_deliver_32 x1 p2 Q (sK σ5 1 (-1 : Int32)))))) ∧
    (r1 = 0 →
      Q (3 : Int32) σ2))
set_option maxRecDepth 100000 in
set_option maxHeartbeats 4000000 in
theorem wX4_deliver_0 {p : Program} {l : Launch} {e : Env} {s : State} {m : MethodId} {args : Array Value} {below : List Frame} {meth : Method} {c : Code} {D : va_G} {A : Nat → Prop} {g : mG} (hg : inj g) {x1 : Int32} {p2 : Nat} (hp2 : p2 < 20) (X : cx p m meth c s args cX4_deliver 3 RX4 D (tyG g)) (hr : meth.sig.returnType = (some .int)) {Q : Int32 → CS → Prop} : ∀ (σ : CS), wpX4_deliver_0 x1 p2 Q σ → cW p l e rmX4_deliver s m args below meth c (MQ below (va_Qi Q (fun u t => wd D A (cT g u) t.heap) A) args s 0 0 A) D A (cT g σ) 0 3 [(0, .ref (g.1 2010)), (1, .int x1), (2, .ref (g.1 (4 * p2 + 2)))] := by
  obtain ⟨hx, hb, hml, hown, hts, hK, hlk⟩ := id X
  intro σ h H locs ls hw hS hl
  unfold wpX4_deliver_0 at h
  refine lv_aload_n hx hb dX4_deliver_0 rfl (lv_at hl 2 rfl) ?_
  refine m_cVi (TT := cT g) (As := []) (rest := []) X hl.1 hw hS (kX2_fits hg hp2 h) mw_222 fX2_fits (tP hp2) rfl rfl ⟨rfl, rfl, Nat.le_of_ble_eq_true rfl, Nat.le_of_ble_eq_true rfl⟩ rfl rfl (Nat.le_of_ble_eq_true rfl) dX4_deliver_1 (fun r1 σ2 H locs h hw hS => ?_)
  refine lv_if_ne (tgt := 9) hx hb dX4_deliver_4 (by decide) (fun hc => ?_) (fun hc => ?_)
  · replace h := h.1 hc
    refine lv_aload_n hx hb dX4_deliver_9 rfl (lv_at hl 0 rfl) ?_
    refine m_get (v := .ref (g.1 2007)) X hw tG rfl inA_X4 0 (by decide) mw_13 rfl dX4_deliver_10 ?_
    refine lv_iload_n hx hb dX4_deliver_13 rfl (lv_at hl 1 rfl) ?_
    obtain ⟨hi3, h⟩ := h
    refine m_aald X hw tR 3 rfl hi3 dX4_deliver_14 ?_
    refine lv_aload_n hx hb dX4_deliver_15 rfl (lv_at hl 2 rfl) ?_
    refine m_cVv (TT := cT g) (As := [.ref (g.1 (4 * p2 + 2))]) (rest := []) X hl.1 hw hS (kX2_load hg (okP_r hi3) hp2 h) mw_226 fX2_load (tP (okP_r hi3)) rfl rfl ⟨rfl, rfl, Nat.le_of_ble_eq_true rfl, Nat.le_of_ble_eq_true rfl⟩ rfl rfl (Nat.le_of_ble_eq_true rfl) dX4_deliver_16 (fun σ5 H locs h hw hS => ?_)
    refine lv_aload_n hx hb dX4_deliver_19 rfl (lv_at hl 0 rfl) ?_
    refine m_get (v := .int (cK σ5 1)) X hw tG rfl inA_X4 3 (by decide) mw_21 rfl dX4_deliver_20 ?_
    refine lv_iload_n hx hb dX4_deliver_23 rfl (lv_at hl 1 rfl) ?_
    refine lv_icmp_ne (tgt := 32) hx hb dX4_deliver_24 (by decide) (fun hc => ?_) (fun hc => ?_)
    · replace h := h.1 hc
      exact wX4_deliver_32 hg hp2 X hr _ h H locs ls hw hS (lv_sub hl [0, 1, 2] rfl)
    · replace h := h.2 hc
      refine lv_aload_n hx hb dX4_deliver_27 rfl (lv_at hl 0 rfl) ?_
      refine lv_iconst (v := (-1 : Int32)) hx hb dX4_deliver_28 (by decide) ?_
      refine m_put (T' := cT g (sK σ5 1 (-1 : Int32))) X hw hS tG rfl inA_X4 tyX4 tyX4_ok nmX4 3 (by decide) mw_21 rfl pd_I (Nat.le_of_ble_eq_true rfl) (uK hg (by decide)) dX4_deliver_29 (fun H locs hw hS => ?_)
      exact wX4_deliver_32 hg hp2 X hr _ h H locs ls hw hS (lv_sub hl [0, 1, 2] rfl)
  · replace h := h.2 hc
    refine lv_iconst (v := (3 : Int32)) hx hb dX4_deliver_7 (by decide) ?_
    exact m_iret X hr hw hS h dX4_deliver_8
def wpX4_deliver (x1 : Int32) (p2 : Nat) (σ : CS) (Q : Int32 → CS → Prop) : Prop := wpX4_deliver_0 x1 p2 Q σ
theorem kX4_deliver {l : Launch} {D : va_G} {A : Nat → Prop} {g : mG} (hg : inj g) {x1 : Int32} {p2 : Nat} (hp2 : p2 < 20) {σ : CS} {Q : Int32 → CS → Prop} (h : wpX4_deliver x1 p2 σ Q) : Met l yX4_deliver (Cond.code yX4_deliver cX4_deliver 3 (some .int) :: wsA) rmX4_deliver (mPc D (tyG g) A (cT g σ) [.ref (g.1 2010), .int x1, .ref (g.1 (4 * p2 + 2))]) (va_Qi Q (fun u t => wd D A (cT g u) t.heap) A) 0 0 A :=
  m_met (by decide +kernel) (Nat.le_of_ble_eq_true rfl) (fun p e s m below meth c X hr H locs ls hw hS hl => wX4_deliver_0 hg hp2 X hr σ h H locs ls hw hS (lv_sub hl [0, 1, 2] rfl))
theorem fX4_deliver : vfit yX4_deliver cX4_deliver 3 (some .int) 2 := ⟨mw_219, mw_220, mw_2, mw_221, by decide +kernel, by decide +kernel, by decide +kernel⟩
/-! BigPolys.coefficient(III)Z -/
def rmX4_coefficient : Room := { frames := 2, cells := 0, slots := 0, locals := 41 }
def wpX4_coefficient_61 (x1 : Int32) (x2 : Int32) (x3 : Int32) (Q : Int32 → CS → Prop) (σ : CS) : Prop :=
  Q (1 : Int32) (sK σ 4 (0 : Int32))
set_option maxRecDepth 100000 in
set_option maxHeartbeats 4000000 in
theorem wX4_coefficient_61 {p : Program} {l : Launch} {e : Env} {s : State} {m : MethodId} {args : Array Value} {below : List Frame} {meth : Method} {c : Code} {D : va_G} {A : Nat → Prop} {g : mG} (hg : inj g) {x1 : Int32} {x2 : Int32} {x3 : Int32} (X : cx p m meth c s args cX4_coefficient 4 RX4 D (tyG g)) (hr : meth.sig.returnType = (some .boolean)) {Q : Int32 → CS → Prop} : ∀ (σ : CS), wpX4_coefficient_61 x1 x2 x3 Q σ → cW p l e rmX4_coefficient s m args below meth c (MQ below (va_Qi Q (fun u t => wd D A (cT g u) t.heap) A) args s 0 0 A) D A (cT g σ) 61 4 [(0, .ref (g.1 2010)), (1, .int x1), (2, .int x2), (3, .int x3)] := by
  obtain ⟨hx, hb, hml, hown, hts, hK, hlk⟩ := id X
  intro σ h H locs ls hw hS hl
  unfold wpX4_coefficient_61 at h
  refine lv_aload_n hx hb dX4_coefficient_61 rfl (lv_at hl 0 rfl) ?_
  refine lv_iconst (v := (0 : Int32)) hx hb dX4_coefficient_62 (by decide) ?_
  refine m_put (T' := cT g (sK σ 4 (0 : Int32))) X hw hS tG rfl inA_X4 tyX4 tyX4_ok nmX4 6 (by decide) mw_89 rfl pd_I (Nat.le_of_ble_eq_true rfl) (uK hg (by decide)) dX4_coefficient_63 (fun H locs hw hS => ?_)
  refine lv_iconst (v := (1 : Int32)) hx hb dX4_coefficient_66 (by decide) ?_
  exact m_zret X hr rfl hw hS h dX4_coefficient_67
def wpX4_coefficient_0 (x1 : Int32) (x2 : Int32) (x3 : Int32) (Q : Int32 → CS → Prop) (σ : CS) : Prop :=
  wpX4_isCoefficient x1 x2 (sK σ 1 (-1 : Int32)) (fun (r1 : Int32) (σ2 : CS) =>
    (¬ r1 = 0 →
      vp_in x1 8 ∧ (
      vp_in x2 (tlen x1.toNatClampNeg) ∧ (
      wpX3_clear (16 * x1.toNatClampNeg + x2.toNatClampNeg) σ2 (fun (σ6 : CS) =>
        vp_in x1 8 ∧ (
        wpX2_measure x1.toNatClampNeg σ6 (fun (σ9 : CS) =>
          (0 ≤ x3 →
            wpX4_coefficient_61 x1 x2 x3 Q (sK (sK (sK σ9 1 x1) 2 x2) 3 (1 : Int32))) ∧
          (¬ 0 ≤ x3 →
            wpX4_coefficient_61 x1 x2 x3 Q (sK (sK (sK σ9 1 x1) 2 x2) 3 (-1 : Int32))))))))) ∧
    (r1 = 0 →
      Q (0 : Int32) σ2))
set_option maxRecDepth 100000 in
set_option maxHeartbeats 4000000 in
theorem wX4_coefficient_0 {p : Program} {l : Launch} {e : Env} {s : State} {m : MethodId} {args : Array Value} {below : List Frame} {meth : Method} {c : Code} {D : va_G} {A : Nat → Prop} {g : mG} (hg : inj g) {x1 : Int32} {x2 : Int32} {x3 : Int32} (X : cx p m meth c s args cX4_coefficient 4 RX4 D (tyG g)) (hr : meth.sig.returnType = (some .boolean)) {Q : Int32 → CS → Prop} : ∀ (σ : CS), wpX4_coefficient_0 x1 x2 x3 Q σ → cW p l e rmX4_coefficient s m args below meth c (MQ below (va_Qi Q (fun u t => wd D A (cT g u) t.heap) A) args s 0 0 A) D A (cT g σ) 0 4 [(0, .ref (g.1 2010)), (1, .int x1), (2, .int x2), (3, .int x3)] := by
  obtain ⟨hx, hb, hml, hown, hts, hK, hlk⟩ := id X
  intro σ h H locs ls hw hS hl
  unfold wpX4_coefficient_0 at h
  refine lv_aload_n hx hb dX4_coefficient_0 rfl (lv_at hl 0 rfl) ?_
  refine lv_iconst (v := (-1 : Int32)) hx hb dX4_coefficient_1 (by decide) ?_
  refine m_put (T' := cT g (sK σ 1 (-1 : Int32))) X hw hS tG rfl inA_X4 tyX4 tyX4_ok nmX4 3 (by decide) mw_21 rfl pd_I (Nat.le_of_ble_eq_true rfl) (uK hg (by decide)) dX4_coefficient_2 (fun H locs hw hS => ?_)
  refine lv_iload_n hx hb dX4_coefficient_5 rfl (lv_at hl 1 rfl) ?_
  refine lv_iload_n hx hb dX4_coefficient_6 rfl (lv_at hl 2 rfl) ?_
  refine m_cSi (TT := cT g) (As := [.int x1, .int x2]) (rest := []) X hl.1 hw hS (kX4_isCoefficient hg h) mw_90 fX4_isCoefficient ⟨rfl, rfl, Nat.le_of_ble_eq_true rfl, Nat.le_of_ble_eq_true rfl⟩ rfl rfl (Nat.le_of_ble_eq_true rfl) dX4_coefficient_7 (fun r1 σ2 H locs h hw hS => ?_)
  refine lv_if_ne (tgt := 15) hx hb dX4_coefficient_10 (by decide) (fun hc => ?_) (fun hc => ?_)
  · replace h := h.1 hc
    refine lv_aload_n hx hb dX4_coefficient_15 rfl (lv_at hl 0 rfl) ?_
    refine m_get (v := .ref (g.1 2007)) X hw tG rfl inA_X4 0 (by decide) mw_13 rfl dX4_coefficient_16 ?_
    refine lv_iload_n hx hb dX4_coefficient_19 rfl (lv_at hl 1 rfl) ?_
    obtain ⟨hi3, h⟩ := h
    refine m_aald X hw tR 3 rfl hi3 dX4_coefficient_20 ?_
    refine m_getN (v := .ref (g.1 (4 * x1.toNatClampNeg + 3))) X hw (tP (okP_r hi3)) rfl inA_X2 0 (by decide) (List.mem_append_left _ (List.mem_map.mpr ⟨_, List.mem_of_getElem? (i := 5) rfl, rfl⟩)) rfl dX4_coefficient_21 ?_
    refine lv_iload_n hx hb dX4_coefficient_24 rfl (lv_at hl 2 rfl) ?_
    obtain ⟨hi4, h⟩ := h
    refine m_aald X hw (tT (okP_r hi3)) 2 rfl hi4 dX4_coefficient_25 ?_
    refine m_cVv (TT := cT g) (As := []) (rest := []) X hl.1 hw hS (kX3_clear hg (okW_t (okP_r hi3) hi4) h) mw_96 fX3_clear (tW (okW_t (okP_r hi3) hi4)) rfl rfl ⟨rfl, rfl, Nat.le_of_ble_eq_true rfl, Nat.le_of_ble_eq_true rfl⟩ rfl rfl (Nat.le_of_ble_eq_true rfl) dX4_coefficient_26 (fun σ6 H locs h hw hS => ?_)
    refine lv_aload_n hx hb dX4_coefficient_29 rfl (lv_at hl 0 rfl) ?_
    refine m_get (v := .ref (g.1 2007)) X hw tG rfl inA_X4 0 (by decide) mw_13 rfl dX4_coefficient_30 ?_
    refine lv_iload_n hx hb dX4_coefficient_33 rfl (lv_at hl 1 rfl) ?_
    obtain ⟨hi7, h⟩ := h
    refine m_aald X hw tR 3 rfl hi7 dX4_coefficient_34 ?_
    refine m_cVv (TT := cT g) (As := []) (rest := []) X hl.1 hw hS (kX2_measure hg (okP_r hi7) h) mw_102 fX2_measure (tP (okP_r hi7)) rfl rfl ⟨rfl, rfl, Nat.le_of_ble_eq_true rfl, Nat.le_of_ble_eq_true rfl⟩ rfl rfl (Nat.le_of_ble_eq_true rfl) dX4_coefficient_35 (fun σ9 H locs h hw hS => ?_)
    refine lv_aload_n hx hb dX4_coefficient_38 rfl (lv_at hl 0 rfl) ?_
    refine lv_iload_n hx hb dX4_coefficient_39 rfl (lv_at hl 1 rfl) ?_
    refine m_put (T' := cT g (sK σ9 1 x1)) X hw hS tG rfl inA_X4 tyX4 tyX4_ok nmX4 3 (by decide) mw_21 rfl pd_I (Nat.le_of_ble_eq_true rfl) (uK hg (by decide)) dX4_coefficient_40 (fun H locs hw hS => ?_)
    refine lv_aload_n hx hb dX4_coefficient_43 rfl (lv_at hl 0 rfl) ?_
    refine lv_iload_n hx hb dX4_coefficient_44 rfl (lv_at hl 2 rfl) ?_
    refine m_put (T' := cT g (sK (sK σ9 1 x1) 2 x2)) X hw hS tG rfl inA_X4 tyX4 tyX4_ok nmX4 4 (by decide) mw_87 rfl pd_I (Nat.le_of_ble_eq_true rfl) (uK hg (by decide)) dX4_coefficient_45 (fun H locs hw hS => ?_)
    refine lv_aload_n hx hb dX4_coefficient_48 rfl (lv_at hl 0 rfl) ?_
    refine lv_iload_n hx hb dX4_coefficient_49 rfl (lv_at hl 3 rfl) ?_
    refine lv_if_ge (tgt := 57) hx hb dX4_coefficient_50 (by decide) (fun hc => ?_) (fun hc => ?_)
    · replace h := h.1 hc
      refine lv_iconst (v := (1 : Int32)) hx hb dX4_coefficient_57 (by decide) ?_
      refine m_put (T' := cT g (sK (sK (sK σ9 1 x1) 2 x2) 3 (1 : Int32))) X hw hS tG rfl inA_X4 tyX4 tyX4_ok nmX4 5 (by decide) mw_88 rfl pd_I (Nat.le_of_ble_eq_true rfl) (uK hg (by decide)) dX4_coefficient_58 (fun H locs hw hS => ?_)
      exact wX4_coefficient_61 hg X hr _ h H locs ls hw hS (lv_sub hl [0, 1, 2, 3] rfl)
    · replace h := h.2 hc
      refine lv_iconst (v := (-1 : Int32)) hx hb dX4_coefficient_53 (by decide) ?_
      refine lv_goto (tgt := 58) hx hb dX4_coefficient_54 (by decide) ?_
      refine m_put (T' := cT g (sK (sK (sK σ9 1 x1) 2 x2) 3 (-1 : Int32))) X hw hS tG rfl inA_X4 tyX4 tyX4_ok nmX4 5 (by decide) mw_88 rfl pd_I (Nat.le_of_ble_eq_true rfl) (uK hg (by decide)) dX4_coefficient_58 (fun H locs hw hS => ?_)
      exact wX4_coefficient_61 hg X hr _ h H locs ls hw hS (lv_sub hl [0, 1, 2, 3] rfl)
  · replace h := h.2 hc
    refine lv_iconst (v := (0 : Int32)) hx hb dX4_coefficient_13 (by decide) ?_
    exact m_zret X hr rfl hw hS h dX4_coefficient_14
def wpX4_coefficient (x1 : Int32) (x2 : Int32) (x3 : Int32) (σ : CS) (Q : Int32 → CS → Prop) : Prop := wpX4_coefficient_0 x1 x2 x3 Q σ
theorem kX4_coefficient {l : Launch} {D : va_G} {A : Nat → Prop} {g : mG} (hg : inj g) {x1 : Int32} {x2 : Int32} {x3 : Int32} {σ : CS} {Q : Int32 → CS → Prop} (h : wpX4_coefficient x1 x2 x3 σ Q) : Met l yX4_coefficient (Cond.code yX4_coefficient cX4_coefficient 4 (some .boolean) :: wsA) rmX4_coefficient (mPc D (tyG g) A (cT g σ) [.ref (g.1 2010), .int x1, .int x2, .int x3]) (va_Qi Q (fun u t => wd D A (cT g u) t.heap) A) 0 0 A :=
  m_met (by decide +kernel) (Nat.le_of_ble_eq_true rfl) (fun p e s m below meth c X hr H locs ls hw hS hl => wX4_coefficient_0 hg X hr σ h H locs ls hw hS (lv_sub hl [0, 1, 2, 3] rfl))
theorem fX4_coefficient : vfit yX4_coefficient cX4_coefficient 4 (some .boolean) 3 := ⟨mw_84, mw_85, mw_2, mw_86, by decide +kernel, by decide +kernel, by decide +kernel⟩
/-! BigPolys.word(I)Z -/
def rmX4_word : Room := { frames := 2, cells := 0, slots := 0, locals := 41 }
def wpX4_word_27 (x1 : Int32) (Q : Int32 → CS → Prop) (σ : CS) : Prop :=
  Q (0 : Int32) σ
set_option maxRecDepth 100000 in
set_option maxHeartbeats 4000000 in
theorem wX4_word_27 {p : Program} {l : Launch} {e : Env} {s : State} {m : MethodId} {args : Array Value} {below : List Frame} {meth : Method} {c : Code} {D : va_G} {A : Nat → Prop} {g : mG} (hg : inj g) {x1 : Int32} (X : cx p m meth c s args cX4_word 2 RX4 D (tyG g)) (hr : meth.sig.returnType = (some .boolean)) {Q : Int32 → CS → Prop} : ∀ (σ : CS), wpX4_word_27 x1 Q σ → cW p l e rmX4_word s m args below meth c (MQ below (va_Qi Q (fun u t => wd D A (cT g u) t.heap) A) args s 0 0 A) D A (cT g σ) 27 2 [(0, .ref (g.1 2010)), (1, .int x1)] := by
  obtain ⟨hx, hb, hml, hown, hts, hK, hlk⟩ := id X
  intro σ h H locs ls hw hS hl
  unfold wpX4_word_27 at h
  refine lv_iconst (v := (0 : Int32)) hx hb dX4_word_27 (by decide) ?_
  exact m_zret X hr rfl hw hS h dX4_word_28
def wpX4_word_0 (x1 : Int32) (Q : Int32 → CS → Prop) (σ : CS) : Prop :=
  wpX4_isCoefficient (cK σ 1) (cK σ 2) σ (fun (r1 : Int32) (σ2 : CS) =>
    (r1 = 0 →
      wpX4_word_27 x1 Q σ2) ∧
    (¬ r1 = 0 →
      (x1 < 0 →
        wpX4_word_27 x1 Q σ2) ∧
      (¬ x1 < 0 →
        ((cK σ2 4) < (6 : Int32) →
          vp_in (cK σ2 1) 8 ∧ (
          vp_in (cK σ2 2) (tlen ((cK σ2 1).toNatClampNeg)) ∧ (
          wpX3_put (16 * ((cK σ2 1).toNatClampNeg) + (cK σ2 2).toNatClampNeg) (cK σ2 4) x1 (cK σ2 3) σ2 (fun (σ6 : CS) =>
            vp_in (cK σ6 1) 8 ∧ (
            wpX2_measure ((cK σ6 1).toNatClampNeg) σ6 (fun (σ9 : CS) =>
              Q (1 : Int32) (sK σ9 4 ((cK σ9 4) + (1 : Int32))))))))) ∧
        (¬ (cK σ2 4) < (6 : Int32) →
          wpX4_word_27 x1 Q σ2))))
set_option maxRecDepth 100000 in
set_option maxHeartbeats 4000000 in
theorem wX4_word_0 {p : Program} {l : Launch} {e : Env} {s : State} {m : MethodId} {args : Array Value} {below : List Frame} {meth : Method} {c : Code} {D : va_G} {A : Nat → Prop} {g : mG} (hg : inj g) {x1 : Int32} (X : cx p m meth c s args cX4_word 2 RX4 D (tyG g)) (hr : meth.sig.returnType = (some .boolean)) {Q : Int32 → CS → Prop} : ∀ (σ : CS), wpX4_word_0 x1 Q σ → cW p l e rmX4_word s m args below meth c (MQ below (va_Qi Q (fun u t => wd D A (cT g u) t.heap) A) args s 0 0 A) D A (cT g σ) 0 2 [(0, .ref (g.1 2010)), (1, .int x1)] := by
  obtain ⟨hx, hb, hml, hown, hts, hK, hlk⟩ := id X
  intro σ h H locs ls hw hS hl
  unfold wpX4_word_0 at h
  refine lv_aload_n hx hb dX4_word_0 rfl (lv_at hl 0 rfl) ?_
  refine m_get (v := .int (cK σ 1)) X hw tG rfl inA_X4 3 (by decide) mw_21 rfl dX4_word_1 ?_
  refine lv_aload_n hx hb dX4_word_4 rfl (lv_at hl 0 rfl) ?_
  refine m_get (v := .int (cK σ 2)) X hw tG rfl inA_X4 4 (by decide) mw_87 rfl dX4_word_5 ?_
  refine m_cSi (TT := cT g) (As := [.int (cK σ 1), .int (cK σ 2)]) (rest := []) X hl.1 hw hS (kX4_isCoefficient hg h) mw_90 fX4_isCoefficient ⟨rfl, rfl, Nat.le_of_ble_eq_true rfl, Nat.le_of_ble_eq_true rfl⟩ rfl rfl (Nat.le_of_ble_eq_true rfl) dX4_word_8 (fun r1 σ2 H locs h hw hS => ?_)
  refine lv_if_eq (tgt := 27) hx hb dX4_word_11 (by decide) (fun hc => ?_) (fun hc => ?_)
  · replace h := h.1 hc
    exact wX4_word_27 hg X hr _ h H locs ls hw hS (lv_sub hl [0, 1] rfl)
  · replace h := h.2 hc
    refine lv_iload_n hx hb dX4_word_14 rfl (lv_at hl 1 rfl) ?_
    refine lv_if_lt (tgt := 27) hx hb dX4_word_15 (by decide) (fun hc => ?_) (fun hc => ?_)
    · replace h := h.1 hc
      exact wX4_word_27 hg X hr _ h H locs ls hw hS (lv_sub hl [0, 1] rfl)
    · replace h := h.2 hc
      refine lv_aload_n hx hb dX4_word_18 rfl (lv_at hl 0 rfl) ?_
      refine m_get (v := .int (cK σ2 4)) X hw tG rfl inA_X4 6 (by decide) mw_89 rfl dX4_word_19 ?_
      refine lv_bipush (v := (6 : Int32)) hx hb dX4_word_22 (by decide) ?_
      refine lv_icmp_lt (tgt := 29) hx hb dX4_word_24 (by decide) (fun hc => ?_) (fun hc => ?_)
      · replace h := h.1 hc
        refine lv_aload_n hx hb dX4_word_29 rfl (lv_at hl 0 rfl) ?_
        refine m_get (v := .ref (g.1 2007)) X hw tG rfl inA_X4 0 (by decide) mw_13 rfl dX4_word_30 ?_
        refine lv_aload_n hx hb dX4_word_33 rfl (lv_at hl 0 rfl) ?_
        refine m_get (v := .int (cK σ2 1)) X hw tG rfl inA_X4 3 (by decide) mw_21 rfl dX4_word_34 ?_
        obtain ⟨hi3, h⟩ := h
        refine m_aald X hw tR 3 rfl hi3 dX4_word_37 ?_
        refine m_getN (v := .ref (g.1 (4 * ((cK σ2 1).toNatClampNeg) + 3))) X hw (tP (okP_r hi3)) rfl inA_X2 0 (by decide) (List.mem_append_left _ (List.mem_map.mpr ⟨_, List.mem_of_getElem? (i := 5) rfl, rfl⟩)) rfl dX4_word_38 ?_
        refine lv_aload_n hx hb dX4_word_41 rfl (lv_at hl 0 rfl) ?_
        refine m_get (v := .int (cK σ2 2)) X hw tG rfl inA_X4 4 (by decide) mw_87 rfl dX4_word_42 ?_
        obtain ⟨hi4, h⟩ := h
        refine m_aald X hw (tT (okP_r hi3)) 2 rfl hi4 dX4_word_45 ?_
        refine lv_aload_n hx hb dX4_word_46 rfl (lv_at hl 0 rfl) ?_
        refine m_get (v := .int (cK σ2 4)) X hw tG rfl inA_X4 6 (by decide) mw_89 rfl dX4_word_47 ?_
        refine lv_iload_n hx hb dX4_word_50 rfl (lv_at hl 1 rfl) ?_
        refine lv_aload_n hx hb dX4_word_51 rfl (lv_at hl 0 rfl) ?_
        refine m_get (v := .int (cK σ2 3)) X hw tG rfl inA_X4 5 (by decide) mw_88 rfl dX4_word_52 ?_
        refine m_cVv (TT := cT g) (As := [.int (cK σ2 4), .int x1, .int (cK σ2 3)]) (rest := []) X hl.1 hw hS (kX3_put hg (okW_t (okP_r hi3) hi4) h) mw_134 fX3_put (tW (okW_t (okP_r hi3) hi4)) rfl rfl ⟨rfl, rfl, Nat.le_of_ble_eq_true rfl, Nat.le_of_ble_eq_true rfl⟩ rfl rfl (Nat.le_of_ble_eq_true rfl) dX4_word_55 (fun σ6 H locs h hw hS => ?_)
        refine lv_aload_n hx hb dX4_word_58 rfl (lv_at hl 0 rfl) ?_
        refine m_get (v := .ref (g.1 2007)) X hw tG rfl inA_X4 0 (by decide) mw_13 rfl dX4_word_59 ?_
        refine lv_aload_n hx hb dX4_word_62 rfl (lv_at hl 0 rfl) ?_
        refine m_get (v := .int (cK σ6 1)) X hw tG rfl inA_X4 3 (by decide) mw_21 rfl dX4_word_63 ?_
        obtain ⟨hi7, h⟩ := h
        refine m_aald X hw tR 3 rfl hi7 dX4_word_66 ?_
        refine m_cVv (TT := cT g) (As := []) (rest := []) X hl.1 hw hS (kX2_measure hg (okP_r hi7) h) mw_102 fX2_measure (tP (okP_r hi7)) rfl rfl ⟨rfl, rfl, Nat.le_of_ble_eq_true rfl, Nat.le_of_ble_eq_true rfl⟩ rfl rfl (Nat.le_of_ble_eq_true rfl) dX4_word_67 (fun σ9 H locs h hw hS => ?_)
        refine lv_aload_n hx hb dX4_word_70 rfl (lv_at hl 0 rfl) ?_
        refine lv_dup hx hb dX4_word_71 rfl ?_
        refine m_get (v := .int (cK σ9 4)) X hw tG rfl inA_X4 6 (by decide) mw_89 rfl dX4_word_72 ?_
        refine lv_iconst (v := (1 : Int32)) hx hb dX4_word_75 (by decide) ?_
        refine lv_iadd hx hb dX4_word_76 ?_
        refine m_put (T' := cT g (sK σ9 4 ((cK σ9 4) + (1 : Int32)))) X hw hS tG rfl inA_X4 tyX4 tyX4_ok nmX4 6 (by decide) mw_89 rfl pd_I (Nat.le_of_ble_eq_true rfl) (uK hg (by decide)) dX4_word_77 (fun H locs hw hS => ?_)
        refine lv_iconst (v := (1 : Int32)) hx hb dX4_word_80 (by decide) ?_
        exact m_zret X hr rfl hw hS h dX4_word_81
      · replace h := h.2 hc
        exact wX4_word_27 hg X hr _ h H locs ls hw hS (lv_sub hl [0, 1] rfl)
def wpX4_word (x1 : Int32) (σ : CS) (Q : Int32 → CS → Prop) : Prop := wpX4_word_0 x1 Q σ
theorem kX4_word {l : Launch} {D : va_G} {A : Nat → Prop} {g : mG} (hg : inj g) {x1 : Int32} {σ : CS} {Q : Int32 → CS → Prop} (h : wpX4_word x1 σ Q) : Met l yX4_word (Cond.code yX4_word cX4_word 2 (some .boolean) :: wsA) rmX4_word (mPc D (tyG g) A (cT g σ) [.ref (g.1 2010), .int x1]) (va_Qi Q (fun u t => wd D A (cT g u) t.heap) A) 0 0 A :=
  m_met (by decide +kernel) (Nat.le_of_ble_eq_true rfl) (fun p e s m below meth c X hr H locs ls hw hS hl => wX4_word_0 hg X hr σ h H locs ls hw hS (lv_sub hl [0, 1] rfl))
theorem fX4_word : vfit yX4_word cX4_word 2 (some .boolean) 1 := ⟨mw_131, mw_132, mw_2, mw_133, by decide +kernel, by decide +kernel, by decide +kernel⟩
/-! BigPolys.add(IIIZ)I -/
def rmX4_add : Room := { frames := 4, cells := 0, slots := 0, locals := 107 }
def wpX4_add_40 (x1 : Int32) (x2 : Int32) (x3 : Int32) (x4 : Int32) (Q : Int32 → CS → Prop) (σ : CS) : Prop :=
  wpX4_deliver x1 8 σ (fun (r1 : Int32) (σ2 : CS) =>
    Q r1 σ2)
set_option maxRecDepth 100000 in
set_option maxHeartbeats 4000000 in
theorem wX4_add_40 {p : Program} {l : Launch} {e : Env} {s : State} {m : MethodId} {args : Array Value} {below : List Frame} {meth : Method} {c : Code} {D : va_G} {A : Nat → Prop} {g : mG} (hg : inj g) {x1 : Int32} {x2 : Int32} {x3 : Int32} {x4 : Int32} (X : cx p m meth c s args cX4_add 5 RX4 D (tyG g)) (hr : meth.sig.returnType = (some .int)) {Q : Int32 → CS → Prop} : ∀ (σ : CS), wpX4_add_40 x1 x2 x3 x4 Q σ → cW p l e rmX4_add s m args below meth c (MQ below (va_Qi Q (fun u t => wd D A (cT g u) t.heap) A) args s 0 0 A) D A (cT g σ) 40 5 [(0, .ref (g.1 2010)), (1, .int x1), (2, .int x2), (3, .int x3), (4, .int x4)] := by
  obtain ⟨hx, hb, hml, hown, hts, hK, hlk⟩ := id X
  intro σ h H locs ls hw hS hl
  unfold wpX4_add_40 at h
  refine lv_aload_n hx hb dX4_add_40 rfl (lv_at hl 0 rfl) ?_
  refine lv_iload_n hx hb dX4_add_41 rfl (lv_at hl 1 rfl) ?_
  refine lv_aload_n hx hb dX4_add_42 rfl (lv_at hl 0 rfl) ?_
  refine m_get (v := .ref (g.1 2002)) X hw tG rfl inA_X4 1 (by decide) mw_20 rfl dX4_add_43 ?_
  refine m_getN (v := .ref (g.1 (4 * 8 + 2))) X hw tB rfl inA_X0 0 (by decide) (List.mem_append_left _ (List.mem_map.mpr ⟨_, List.mem_of_getElem? (i := 6) rfl, rfl⟩)) rfl dX4_add_46 ?_
  refine m_cVi (TT := cT g) (As := [.int x1, .ref (g.1 (4 * 8 + 2))]) (rest := []) X hl.1 hw hS (kX4_deliver hg (by decide : (8 : Nat) < 20) h) mw_218 fX4_deliver tG rfl rfl ⟨rfl, rfl, Nat.le_of_ble_eq_true rfl, Nat.le_of_ble_eq_true rfl⟩ rfl rfl (Nat.le_of_ble_eq_true rfl) dX4_add_49 (fun r1 σ2 H locs h hw hS => ?_)
  exact m_iret X hr hw hS h dX4_add_52
def wpX4_add_0 (x1 : Int32) (x2 : Int32) (x3 : Int32) (x4 : Int32) (Q : Int32 → CS → Prop) (σ : CS) : Prop :=
  wpX4_areRegisters x1 x2 x3 σ (fun (r3 : Int32) (σ4 : CS) =>
    (¬ r3 = 0 →
      vp_in x2 8 ∧ (
      vp_in x3 8 ∧ (
      (x4 = 0 →
        wpX0_sum x2.toNatClampNeg x3.toNatClampNeg (1 : Int32) σ4 (fun (σ8 : CS) =>
          wpX4_add_40 x1 x2 x3 x4 Q σ8)) ∧
      (¬ x4 = 0 →
        wpX0_sum x2.toNatClampNeg x3.toNatClampNeg (-1 : Int32) σ4 (fun (σ10 : CS) =>
          wpX4_add_40 x1 x2 x3 x4 Q σ10))))) ∧
    (r3 = 0 →
      Q (1 : Int32) σ4))
set_option maxRecDepth 100000 in
set_option maxHeartbeats 4000000 in
theorem wX4_add_0 {p : Program} {l : Launch} {e : Env} {s : State} {m : MethodId} {args : Array Value} {below : List Frame} {meth : Method} {c : Code} {D : va_G} {A : Nat → Prop} {g : mG} (hg : inj g) {x1 : Int32} {x2 : Int32} {x3 : Int32} {x4 : Int32} (X : cx p m meth c s args cX4_add 5 RX4 D (tyG g)) (hr : meth.sig.returnType = (some .int)) {Q : Int32 → CS → Prop} : ∀ (σ : CS), wpX4_add_0 x1 x2 x3 x4 Q σ → cW p l e rmX4_add s m args below meth c (MQ below (va_Qi Q (fun u t => wd D A (cT g u) t.heap) A) args s 0 0 A) D A (cT g σ) 0 5 [(0, .ref (g.1 2010)), (1, .int x1), (2, .int x2), (3, .int x3), (4, .int x4)] := by
  obtain ⟨hx, hb, hml, hown, hts, hK, hlk⟩ := id X
  intro σ h H locs ls hw hS hl
  unfold wpX4_add_0 at h
  refine lv_iload_n hx hb dX4_add_0 rfl (lv_at hl 1 rfl) ?_
  refine lv_iload_n hx hb dX4_add_1 rfl (lv_at hl 2 rfl) ?_
  refine lv_iload_n hx hb dX4_add_2 rfl (lv_at hl 3 rfl) ?_
  refine m_cSi (TT := cT g) (As := [.int x1, .int x2, .int x3]) (rest := []) X hl.1 hw hS (kX4_areRegisters hg h) mw_171 fX4_areRegisters ⟨rfl, rfl, Nat.le_of_ble_eq_true rfl, Nat.le_of_ble_eq_true rfl⟩ rfl rfl (Nat.le_of_ble_eq_true rfl) dX4_add_3 (fun r3 σ4 H locs h hw hS => ?_)
  refine lv_if_ne (tgt := 11) hx hb dX4_add_6 (by decide) (fun hc => ?_) (fun hc => ?_)
  · replace h := h.1 hc
    refine lv_aload_n hx hb dX4_add_11 rfl (lv_at hl 0 rfl) ?_
    refine m_get (v := .ref (g.1 2002)) X hw tG rfl inA_X4 1 (by decide) mw_20 rfl dX4_add_12 ?_
    refine lv_aload_n hx hb dX4_add_15 rfl (lv_at hl 0 rfl) ?_
    refine m_get (v := .ref (g.1 2007)) X hw tG rfl inA_X4 0 (by decide) mw_13 rfl dX4_add_16 ?_
    refine lv_iload_n hx hb dX4_add_19 rfl (lv_at hl 2 rfl) ?_
    obtain ⟨hi5, h⟩ := h
    refine m_aald X hw tR 3 rfl hi5 dX4_add_20 ?_
    refine lv_aload_n hx hb dX4_add_21 rfl (lv_at hl 0 rfl) ?_
    refine m_get (v := .ref (g.1 2007)) X hw tG rfl inA_X4 0 (by decide) mw_13 rfl dX4_add_22 ?_
    refine lv_iload_n hx hb dX4_add_25 rfl (lv_at hl 3 rfl) ?_
    obtain ⟨hi6, h⟩ := h
    refine m_aald X hw tR 3 rfl hi6 dX4_add_26 ?_
    refine lv_iload hx hb dX4_add_27 (lv_at hl 4 rfl) ?_
    refine lv_if_eq (tgt := 36) hx hb dX4_add_29 (by decide) (fun hc => ?_) (fun hc => ?_)
    · replace h := h.1 hc
      refine lv_iconst (v := (1 : Int32)) hx hb dX4_add_36 (by decide) ?_
      refine m_cVv (TT := cT g) (As := [.ref (g.1 (4 * x2.toNatClampNeg + 2)), .ref (g.1 (4 * x3.toNatClampNeg + 2)), .int (1 : Int32)]) (rest := []) X hl.1 hw hS (kX0_sum hg (okP_r hi5) (okP_r hi6) h) mw_174 fX0_sum tB rfl rfl ⟨rfl, rfl, Nat.le_of_ble_eq_true rfl, Nat.le_of_ble_eq_true rfl⟩ rfl rfl (Nat.le_of_ble_eq_true rfl) dX4_add_37 (fun σ8 H locs h hw hS => ?_)
      exact wX4_add_40 hg X hr _ h H locs ls hw hS (lv_sub hl [0, 1, 2, 3, 4] rfl)
    · replace h := h.2 hc
      refine lv_iconst (v := (-1 : Int32)) hx hb dX4_add_32 (by decide) ?_
      refine lv_goto (tgt := 37) hx hb dX4_add_33 (by decide) ?_
      refine m_cVv (TT := cT g) (As := [.ref (g.1 (4 * x2.toNatClampNeg + 2)), .ref (g.1 (4 * x3.toNatClampNeg + 2)), .int (-1 : Int32)]) (rest := []) X hl.1 hw hS (kX0_sum hg (okP_r hi5) (okP_r hi6) h) mw_174 fX0_sum tB rfl rfl ⟨rfl, rfl, Nat.le_of_ble_eq_true rfl, Nat.le_of_ble_eq_true rfl⟩ rfl rfl (Nat.le_of_ble_eq_true rfl) dX4_add_37 (fun σ10 H locs h hw hS => ?_)
      exact wX4_add_40 hg X hr _ h H locs ls hw hS (lv_sub hl [0, 1, 2, 3, 4] rfl)
  · replace h := h.2 hc
    refine lv_iconst (v := (1 : Int32)) hx hb dX4_add_9 (by decide) ?_
    exact m_iret X hr hw hS h dX4_add_10
def wpX4_add (x1 : Int32) (x2 : Int32) (x3 : Int32) (x4 : Int32) (σ : CS) (Q : Int32 → CS → Prop) : Prop := wpX4_add_0 x1 x2 x3 x4 Q σ
theorem kX4_add {l : Launch} {D : va_G} {A : Nat → Prop} {g : mG} (hg : inj g) {x1 : Int32} {x2 : Int32} {x3 : Int32} {x4 : Int32} {σ : CS} {Q : Int32 → CS → Prop} (h : wpX4_add x1 x2 x3 x4 σ Q) : Met l yX4_add (Cond.code yX4_add cX4_add 5 (some .int) :: wsA) rmX4_add (mPc D (tyG g) A (cT g σ) [.ref (g.1 2010), .int x1, .int x2, .int x3, .int x4]) (va_Qi Q (fun u t => wd D A (cT g u) t.heap) A) 0 0 A :=
  m_met (by decide +kernel) (Nat.le_of_ble_eq_true rfl) (fun p e s m below meth c X hr H locs ls hw hS hl => wX4_add_0 hg X hr σ h H locs ls hw hS (lv_sub hl [0, 1, 2, 3, 4] rfl))
theorem fX4_add : vfit yX4_add cX4_add 5 (some .int) 4 := ⟨mw_168, mw_169, mw_2, mw_170, by decide +kernel, by decide +kernel, by decide +kernel⟩
/-! BigPolys.multiply(III)I -/
def rmX4_multiply : Room := { frames := 4, cells := 0, slots := 0, locals := 105 }
def wpX4_multiply_0 (x1 : Int32) (x2 : Int32) (x3 : Int32) (Q : Int32 → CS → Prop) (σ : CS) : Prop :=
  wpX4_areRegisters x1 x2 x3 σ (fun (r1 : Int32) (σ2 : CS) =>
    (¬ r1 = 0 →
      vp_in x2 8 ∧ (
      vp_in x3 8 ∧ (
      (((cD σ2 x2.toNatClampNeg) + (cD σ2 x3.toNatClampNeg)) ≤ (8 : Int32) →
        vp_in x2 8 ∧ (
        vp_in x3 8 ∧ (
        wpX0_times x2.toNatClampNeg x3.toNatClampNeg σ2 (fun (σ8 : CS) =>
          wpX4_deliver x1 8 σ8 (fun (r9 : Int32) (σ10 : CS) =>
            Q r9 σ10))))) ∧
      (¬ ((cD σ2 x2.toNatClampNeg) + (cD σ2 x3.toNatClampNeg)) ≤ (8 : Int32) →
        Q (3 : Int32) σ2)))) ∧
    (r1 = 0 →
      Q (1 : Int32) σ2))
set_option maxRecDepth 100000 in
set_option maxHeartbeats 4000000 in
theorem wX4_multiply_0 {p : Program} {l : Launch} {e : Env} {s : State} {m : MethodId} {args : Array Value} {below : List Frame} {meth : Method} {c : Code} {D : va_G} {A : Nat → Prop} {g : mG} (hg : inj g) {x1 : Int32} {x2 : Int32} {x3 : Int32} (X : cx p m meth c s args cX4_multiply 4 RX4 D (tyG g)) (hr : meth.sig.returnType = (some .int)) {Q : Int32 → CS → Prop} : ∀ (σ : CS), wpX4_multiply_0 x1 x2 x3 Q σ → cW p l e rmX4_multiply s m args below meth c (MQ below (va_Qi Q (fun u t => wd D A (cT g u) t.heap) A) args s 0 0 A) D A (cT g σ) 0 4 [(0, .ref (g.1 2010)), (1, .int x1), (2, .int x2), (3, .int x3)] := by
  obtain ⟨hx, hb, hml, hown, hts, hK, hlk⟩ := id X
  intro σ h H locs ls hw hS hl
  unfold wpX4_multiply_0 at h
  refine lv_iload_n hx hb dX4_multiply_0 rfl (lv_at hl 1 rfl) ?_
  refine lv_iload_n hx hb dX4_multiply_1 rfl (lv_at hl 2 rfl) ?_
  refine lv_iload_n hx hb dX4_multiply_2 rfl (lv_at hl 3 rfl) ?_
  refine m_cSi (TT := cT g) (As := [.int x1, .int x2, .int x3]) (rest := []) X hl.1 hw hS (kX4_areRegisters hg h) mw_171 fX4_areRegisters ⟨rfl, rfl, Nat.le_of_ble_eq_true rfl, Nat.le_of_ble_eq_true rfl⟩ rfl rfl (Nat.le_of_ble_eq_true rfl) dX4_multiply_3 (fun r1 σ2 H locs h hw hS => ?_)
  refine lv_if_ne (tgt := 11) hx hb dX4_multiply_6 (by decide) (fun hc => ?_) (fun hc => ?_)
  · replace h := h.1 hc
    refine lv_aload_n hx hb dX4_multiply_11 rfl (lv_at hl 0 rfl) ?_
    refine m_get (v := .ref (g.1 2007)) X hw tG rfl inA_X4 0 (by decide) mw_13 rfl dX4_multiply_12 ?_
    refine lv_iload_n hx hb dX4_multiply_15 rfl (lv_at hl 2 rfl) ?_
    obtain ⟨hi3, h⟩ := h
    refine m_aald X hw tR 3 rfl hi3 dX4_multiply_16 ?_
    refine m_getN (v := .int (cD σ2 x2.toNatClampNeg)) X hw (tP (okP_r hi3)) rfl inA_X2 1 (by decide) (List.mem_append_left _ (List.mem_map.mpr ⟨_, List.mem_of_getElem? (i := 7) rfl, rfl⟩)) rfl dX4_multiply_17 ?_
    refine lv_aload_n hx hb dX4_multiply_20 rfl (lv_at hl 0 rfl) ?_
    refine m_get (v := .ref (g.1 2007)) X hw tG rfl inA_X4 0 (by decide) mw_13 rfl dX4_multiply_21 ?_
    refine lv_iload_n hx hb dX4_multiply_24 rfl (lv_at hl 3 rfl) ?_
    obtain ⟨hi4, h⟩ := h
    refine m_aald X hw tR 3 rfl hi4 dX4_multiply_25 ?_
    refine m_getN (v := .int (cD σ2 x3.toNatClampNeg)) X hw (tP (okP_r hi4)) rfl inA_X2 1 (by decide) (List.mem_append_left _ (List.mem_map.mpr ⟨_, List.mem_of_getElem? (i := 7) rfl, rfl⟩)) rfl dX4_multiply_26 ?_
    refine lv_iadd hx hb dX4_multiply_29 ?_
    refine lv_bipush (v := (8 : Int32)) hx hb dX4_multiply_30 (by decide) ?_
    refine lv_icmp_le (tgt := 37) hx hb dX4_multiply_32 (by decide) (fun hc => ?_) (fun hc => ?_)
    · replace h := h.1 hc
      refine lv_aload_n hx hb dX4_multiply_37 rfl (lv_at hl 0 rfl) ?_
      refine m_get (v := .ref (g.1 2002)) X hw tG rfl inA_X4 1 (by decide) mw_20 rfl dX4_multiply_38 ?_
      refine lv_aload_n hx hb dX4_multiply_41 rfl (lv_at hl 0 rfl) ?_
      refine m_get (v := .ref (g.1 2007)) X hw tG rfl inA_X4 0 (by decide) mw_13 rfl dX4_multiply_42 ?_
      refine lv_iload_n hx hb dX4_multiply_45 rfl (lv_at hl 2 rfl) ?_
      obtain ⟨hi5, h⟩ := h
      refine m_aald X hw tR 3 rfl hi5 dX4_multiply_46 ?_
      refine lv_aload_n hx hb dX4_multiply_47 rfl (lv_at hl 0 rfl) ?_
      refine m_get (v := .ref (g.1 2007)) X hw tG rfl inA_X4 0 (by decide) mw_13 rfl dX4_multiply_48 ?_
      refine lv_iload_n hx hb dX4_multiply_51 rfl (lv_at hl 3 rfl) ?_
      obtain ⟨hi6, h⟩ := h
      refine m_aald X hw tR 3 rfl hi6 dX4_multiply_52 ?_
      refine m_cVv (TT := cT g) (As := [.ref (g.1 (4 * x2.toNatClampNeg + 2)), .ref (g.1 (4 * x3.toNatClampNeg + 2))]) (rest := []) X hl.1 hw hS (kX0_times hg (okP_r hi5) (okP_r hi6) h) mw_247 fX0_times tB rfl rfl ⟨rfl, rfl, Nat.le_of_ble_eq_true rfl, Nat.le_of_ble_eq_true rfl⟩ rfl rfl (Nat.le_of_ble_eq_true rfl) dX4_multiply_53 (fun σ8 H locs h hw hS => ?_)
      refine lv_aload_n hx hb dX4_multiply_56 rfl (lv_at hl 0 rfl) ?_
      refine lv_iload_n hx hb dX4_multiply_57 rfl (lv_at hl 1 rfl) ?_
      refine lv_aload_n hx hb dX4_multiply_58 rfl (lv_at hl 0 rfl) ?_
      refine m_get (v := .ref (g.1 2002)) X hw tG rfl inA_X4 1 (by decide) mw_20 rfl dX4_multiply_59 ?_
      refine m_getN (v := .ref (g.1 (4 * 8 + 2))) X hw tB rfl inA_X0 0 (by decide) (List.mem_append_left _ (List.mem_map.mpr ⟨_, List.mem_of_getElem? (i := 6) rfl, rfl⟩)) rfl dX4_multiply_62 ?_
      refine m_cVi (TT := cT g) (As := [.int x1, .ref (g.1 (4 * 8 + 2))]) (rest := []) X hl.1 hw hS (kX4_deliver hg (by decide : (8 : Nat) < 20) h) mw_218 fX4_deliver tG rfl rfl ⟨rfl, rfl, Nat.le_of_ble_eq_true rfl, Nat.le_of_ble_eq_true rfl⟩ rfl rfl (Nat.le_of_ble_eq_true rfl) dX4_multiply_65 (fun r9 σ10 H locs h hw hS => ?_)
      exact m_iret X hr hw hS h dX4_multiply_68
    · replace h := h.2 hc
      refine lv_iconst (v := (3 : Int32)) hx hb dX4_multiply_35 (by decide) ?_
      exact m_iret X hr hw hS h dX4_multiply_36
  · replace h := h.2 hc
    refine lv_iconst (v := (1 : Int32)) hx hb dX4_multiply_9 (by decide) ?_
    exact m_iret X hr hw hS h dX4_multiply_10
def wpX4_multiply (x1 : Int32) (x2 : Int32) (x3 : Int32) (σ : CS) (Q : Int32 → CS → Prop) : Prop := wpX4_multiply_0 x1 x2 x3 Q σ
theorem kX4_multiply {l : Launch} {D : va_G} {A : Nat → Prop} {g : mG} (hg : inj g) {x1 : Int32} {x2 : Int32} {x3 : Int32} {σ : CS} {Q : Int32 → CS → Prop} (h : wpX4_multiply x1 x2 x3 σ Q) : Met l yX4_multiply (Cond.code yX4_multiply cX4_multiply 4 (some .int) :: wsA) rmX4_multiply (mPc D (tyG g) A (cT g σ) [.ref (g.1 2010), .int x1, .int x2, .int x3]) (va_Qi Q (fun u t => wd D A (cT g u) t.heap) A) 0 0 A :=
  m_met (by decide +kernel) (Nat.le_of_ble_eq_true rfl) (fun p e s m below meth c X hr H locs ls hw hS hl => wX4_multiply_0 hg X hr σ h H locs ls hw hS (lv_sub hl [0, 1, 2, 3] rfl))
theorem fX4_multiply : vfit yX4_multiply cX4_multiply 4 (some .int) 3 := ⟨mw_244, mw_245, mw_2, mw_246, by decide +kernel, by decide +kernel, by decide +kernel⟩
/-! BigPolys.derive(II)I -/
def rmX4_derive : Room := { frames := 4, cells := 0, slots := 0, locals := 105 }
def wpX4_derive_0 (x1 : Int32) (x2 : Int32) (Q : Int32 → CS → Prop) (σ : CS) : Prop :=
  wpX4_areRegisters x1 x2 x2 σ (fun (r1 : Int32) (σ2 : CS) =>
    (¬ r1 = 0 →
      vp_in x2 8 ∧ (
      wpX2_slopeOf 8 x2.toNatClampNeg σ2 (fun (σ5 : CS) =>
        wpX4_deliver x1 8 σ5 (fun (r6 : Int32) (σ7 : CS) =>
          Q r6 σ7)))) ∧
    (r1 = 0 →
      Q (1 : Int32) σ2))
set_option maxRecDepth 100000 in
set_option maxHeartbeats 4000000 in
theorem wX4_derive_0 {p : Program} {l : Launch} {e : Env} {s : State} {m : MethodId} {args : Array Value} {below : List Frame} {meth : Method} {c : Code} {D : va_G} {A : Nat → Prop} {g : mG} (hg : inj g) {x1 : Int32} {x2 : Int32} (X : cx p m meth c s args cX4_derive 3 RX4 D (tyG g)) (hr : meth.sig.returnType = (some .int)) {Q : Int32 → CS → Prop} : ∀ (σ : CS), wpX4_derive_0 x1 x2 Q σ → cW p l e rmX4_derive s m args below meth c (MQ below (va_Qi Q (fun u t => wd D A (cT g u) t.heap) A) args s 0 0 A) D A (cT g σ) 0 3 [(0, .ref (g.1 2010)), (1, .int x1), (2, .int x2)] := by
  obtain ⟨hx, hb, hml, hown, hts, hK, hlk⟩ := id X
  intro σ h H locs ls hw hS hl
  unfold wpX4_derive_0 at h
  refine lv_iload_n hx hb dX4_derive_0 rfl (lv_at hl 1 rfl) ?_
  refine lv_iload_n hx hb dX4_derive_1 rfl (lv_at hl 2 rfl) ?_
  refine lv_iload_n hx hb dX4_derive_2 rfl (lv_at hl 2 rfl) ?_
  refine m_cSi (TT := cT g) (As := [.int x1, .int x2, .int x2]) (rest := []) X hl.1 hw hS (kX4_areRegisters hg h) mw_171 fX4_areRegisters ⟨rfl, rfl, Nat.le_of_ble_eq_true rfl, Nat.le_of_ble_eq_true rfl⟩ rfl rfl (Nat.le_of_ble_eq_true rfl) dX4_derive_3 (fun r1 σ2 H locs h hw hS => ?_)
  refine lv_if_ne (tgt := 11) hx hb dX4_derive_6 (by decide) (fun hc => ?_) (fun hc => ?_)
  · replace h := h.1 hc
    refine lv_aload_n hx hb dX4_derive_11 rfl (lv_at hl 0 rfl) ?_
    refine m_get (v := .ref (g.1 2002)) X hw tG rfl inA_X4 1 (by decide) mw_20 rfl dX4_derive_12 ?_
    refine m_getN (v := .ref (g.1 (4 * 8 + 2))) X hw tB rfl inA_X0 0 (by decide) (List.mem_append_left _ (List.mem_map.mpr ⟨_, List.mem_of_getElem? (i := 6) rfl, rfl⟩)) rfl dX4_derive_15 ?_
    refine lv_aload_n hx hb dX4_derive_18 rfl (lv_at hl 0 rfl) ?_
    refine m_get (v := .ref (g.1 2007)) X hw tG rfl inA_X4 0 (by decide) mw_13 rfl dX4_derive_19 ?_
    refine lv_iload_n hx hb dX4_derive_22 rfl (lv_at hl 2 rfl) ?_
    obtain ⟨hi3, h⟩ := h
    refine m_aald X hw tR 3 rfl hi3 dX4_derive_23 ?_
    refine m_cVv (TT := cT g) (As := [.ref (g.1 (4 * x2.toNatClampNeg + 2))]) (rest := []) X hl.1 hw hS (kX2_slopeOf hg (by decide : (8 : Nat) < 20) (okP_r hi3) h) mw_283 fX2_slopeOf (tP (by decide : (8 : Nat) < 20)) rfl rfl ⟨rfl, rfl, Nat.le_of_ble_eq_true rfl, Nat.le_of_ble_eq_true rfl⟩ rfl rfl (Nat.le_of_ble_eq_true rfl) dX4_derive_24 (fun σ5 H locs h hw hS => ?_)
    refine lv_aload_n hx hb dX4_derive_27 rfl (lv_at hl 0 rfl) ?_
    refine lv_iload_n hx hb dX4_derive_28 rfl (lv_at hl 1 rfl) ?_
    refine lv_aload_n hx hb dX4_derive_29 rfl (lv_at hl 0 rfl) ?_
    refine m_get (v := .ref (g.1 2002)) X hw tG rfl inA_X4 1 (by decide) mw_20 rfl dX4_derive_30 ?_
    refine m_getN (v := .ref (g.1 (4 * 8 + 2))) X hw tB rfl inA_X0 0 (by decide) (List.mem_append_left _ (List.mem_map.mpr ⟨_, List.mem_of_getElem? (i := 6) rfl, rfl⟩)) rfl dX4_derive_33 ?_
    refine m_cVi (TT := cT g) (As := [.int x1, .ref (g.1 (4 * 8 + 2))]) (rest := []) X hl.1 hw hS (kX4_deliver hg (by decide : (8 : Nat) < 20) h) mw_218 fX4_deliver tG rfl rfl ⟨rfl, rfl, Nat.le_of_ble_eq_true rfl, Nat.le_of_ble_eq_true rfl⟩ rfl rfl (Nat.le_of_ble_eq_true rfl) dX4_derive_36 (fun r6 σ7 H locs h hw hS => ?_)
    exact m_iret X hr hw hS h dX4_derive_39
  · replace h := h.2 hc
    refine lv_iconst (v := (1 : Int32)) hx hb dX4_derive_9 (by decide) ?_
    exact m_iret X hr hw hS h dX4_derive_10
def wpX4_derive (x1 : Int32) (x2 : Int32) (σ : CS) (Q : Int32 → CS → Prop) : Prop := wpX4_derive_0 x1 x2 Q σ
theorem kX4_derive {l : Launch} {D : va_G} {A : Nat → Prop} {g : mG} (hg : inj g) {x1 : Int32} {x2 : Int32} {σ : CS} {Q : Int32 → CS → Prop} (h : wpX4_derive x1 x2 σ Q) : Met l yX4_derive (Cond.code yX4_derive cX4_derive 3 (some .int) :: wsA) rmX4_derive (mPc D (tyG g) A (cT g σ) [.ref (g.1 2010), .int x1, .int x2]) (va_Qi Q (fun u t => wd D A (cT g u) t.heap) A) 0 0 A :=
  m_met (by decide +kernel) (Nat.le_of_ble_eq_true rfl) (fun p e s m below meth c X hr H locs ls hw hS hl => wX4_derive_0 hg X hr σ h H locs ls hw hS (lv_sub hl [0, 1, 2] rfl))
theorem fX4_derive : vfit yX4_derive cX4_derive 3 (some .int) 2 := ⟨mw_280, mw_281, mw_2, mw_282, by decide +kernel, by decide +kernel, by decide +kernel⟩
/-! BigPolys.shift(III)I -/
def rmX4_shift : Room := { frames := 4, cells := 0, slots := 0, locals := 107 }
def wpX4_shift_0 (x1 : Int32) (x2 : Int32) (x3 : Int32) (Q : Int32 → CS → Prop) (σ : CS) : Prop :=
  wpX4_areRegisters x1 x2 x2 σ (fun (r1 : Int32) (σ2 : CS) =>
    (¬ r1 = 0 →
      vp_in x2 8 ∧ (
      wpX0_move x2.toNatClampNeg x3 σ2 (fun (σ5 : CS) =>
        wpX4_deliver x1 8 σ5 (fun (r6 : Int32) (σ7 : CS) =>
          Q r6 σ7)))) ∧
    (r1 = 0 →
      Q (1 : Int32) σ2))
set_option maxRecDepth 100000 in
set_option maxHeartbeats 4000000 in
theorem wX4_shift_0 {p : Program} {l : Launch} {e : Env} {s : State} {m : MethodId} {args : Array Value} {below : List Frame} {meth : Method} {c : Code} {D : va_G} {A : Nat → Prop} {g : mG} (hg : inj g) {x1 : Int32} {x2 : Int32} {x3 : Int32} (X : cx p m meth c s args cX4_shift 4 RX4 D (tyG g)) (hr : meth.sig.returnType = (some .int)) {Q : Int32 → CS → Prop} : ∀ (σ : CS), wpX4_shift_0 x1 x2 x3 Q σ → cW p l e rmX4_shift s m args below meth c (MQ below (va_Qi Q (fun u t => wd D A (cT g u) t.heap) A) args s 0 0 A) D A (cT g σ) 0 4 [(0, .ref (g.1 2010)), (1, .int x1), (2, .int x2), (3, .int x3)] := by
  obtain ⟨hx, hb, hml, hown, hts, hK, hlk⟩ := id X
  intro σ h H locs ls hw hS hl
  unfold wpX4_shift_0 at h
  refine lv_iload_n hx hb dX4_shift_0 rfl (lv_at hl 1 rfl) ?_
  refine lv_iload_n hx hb dX4_shift_1 rfl (lv_at hl 2 rfl) ?_
  refine lv_iload_n hx hb dX4_shift_2 rfl (lv_at hl 2 rfl) ?_
  refine m_cSi (TT := cT g) (As := [.int x1, .int x2, .int x2]) (rest := []) X hl.1 hw hS (kX4_areRegisters hg h) mw_171 fX4_areRegisters ⟨rfl, rfl, Nat.le_of_ble_eq_true rfl, Nat.le_of_ble_eq_true rfl⟩ rfl rfl (Nat.le_of_ble_eq_true rfl) dX4_shift_3 (fun r1 σ2 H locs h hw hS => ?_)
  refine lv_if_ne (tgt := 11) hx hb dX4_shift_6 (by decide) (fun hc => ?_) (fun hc => ?_)
  · replace h := h.1 hc
    refine lv_aload_n hx hb dX4_shift_11 rfl (lv_at hl 0 rfl) ?_
    refine m_get (v := .ref (g.1 2002)) X hw tG rfl inA_X4 1 (by decide) mw_20 rfl dX4_shift_12 ?_
    refine lv_aload_n hx hb dX4_shift_15 rfl (lv_at hl 0 rfl) ?_
    refine m_get (v := .ref (g.1 2007)) X hw tG rfl inA_X4 0 (by decide) mw_13 rfl dX4_shift_16 ?_
    refine lv_iload_n hx hb dX4_shift_19 rfl (lv_at hl 2 rfl) ?_
    obtain ⟨hi3, h⟩ := h
    refine m_aald X hw tR 3 rfl hi3 dX4_shift_20 ?_
    refine lv_iload_n hx hb dX4_shift_21 rfl (lv_at hl 3 rfl) ?_
    refine m_cVv (TT := cT g) (As := [.ref (g.1 (4 * x2.toNatClampNeg + 2)), .int x3]) (rest := []) X hl.1 hw hS (kX0_move hg (okP_r hi3) h) mw_304 fX0_move tB rfl rfl ⟨rfl, rfl, Nat.le_of_ble_eq_true rfl, Nat.le_of_ble_eq_true rfl⟩ rfl rfl (Nat.le_of_ble_eq_true rfl) dX4_shift_22 (fun σ5 H locs h hw hS => ?_)
    refine lv_aload_n hx hb dX4_shift_25 rfl (lv_at hl 0 rfl) ?_
    refine lv_iload_n hx hb dX4_shift_26 rfl (lv_at hl 1 rfl) ?_
    refine lv_aload_n hx hb dX4_shift_27 rfl (lv_at hl 0 rfl) ?_
    refine m_get (v := .ref (g.1 2002)) X hw tG rfl inA_X4 1 (by decide) mw_20 rfl dX4_shift_28 ?_
    refine m_getN (v := .ref (g.1 (4 * 8 + 2))) X hw tB rfl inA_X0 0 (by decide) (List.mem_append_left _ (List.mem_map.mpr ⟨_, List.mem_of_getElem? (i := 6) rfl, rfl⟩)) rfl dX4_shift_31 ?_
    refine m_cVi (TT := cT g) (As := [.int x1, .ref (g.1 (4 * 8 + 2))]) (rest := []) X hl.1 hw hS (kX4_deliver hg (by decide : (8 : Nat) < 20) h) mw_218 fX4_deliver tG rfl rfl ⟨rfl, rfl, Nat.le_of_ble_eq_true rfl, Nat.le_of_ble_eq_true rfl⟩ rfl rfl (Nat.le_of_ble_eq_true rfl) dX4_shift_34 (fun r6 σ7 H locs h hw hS => ?_)
    exact m_iret X hr hw hS h dX4_shift_37
  · replace h := h.2 hc
    refine lv_iconst (v := (1 : Int32)) hx hb dX4_shift_9 (by decide) ?_
    exact m_iret X hr hw hS h dX4_shift_10
def wpX4_shift (x1 : Int32) (x2 : Int32) (x3 : Int32) (σ : CS) (Q : Int32 → CS → Prop) : Prop := wpX4_shift_0 x1 x2 x3 Q σ
theorem kX4_shift {l : Launch} {D : va_G} {A : Nat → Prop} {g : mG} (hg : inj g) {x1 : Int32} {x2 : Int32} {x3 : Int32} {σ : CS} {Q : Int32 → CS → Prop} (h : wpX4_shift x1 x2 x3 σ Q) : Met l yX4_shift (Cond.code yX4_shift cX4_shift 4 (some .int) :: wsA) rmX4_shift (mPc D (tyG g) A (cT g σ) [.ref (g.1 2010), .int x1, .int x2, .int x3]) (va_Qi Q (fun u t => wd D A (cT g u) t.heap) A) 0 0 A :=
  m_met (by decide +kernel) (Nat.le_of_ble_eq_true rfl) (fun p e s m below meth c X hr H locs ls hw hS hl => wX4_shift_0 hg X hr σ h H locs ls hw hS (lv_sub hl [0, 1, 2, 3] rfl))
theorem fX4_shift : vfit yX4_shift cX4_shift 4 (some .int) 3 := ⟨mw_301, mw_302, mw_2, mw_303, by decide +kernel, by decide +kernel, by decide +kernel⟩
/-! BigPolys.remainder(III)I -/
def rmX4_remainder : Room := { frames := 5, cells := 0, slots := 0, locals := 125 }
def wpX4_remainder_0 (x1 : Int32) (x2 : Int32) (x3 : Int32) (Q : Int32 → CS → Prop) (σ : CS) : Prop :=
  wpX4_areRegisters x1 x2 x3 σ (fun (r1 : Int32) (σ2 : CS) =>
    (¬ r1 = 0 →
      vp_in x3 8 ∧ (
      (0 ≤ (cD σ2 x3.toNatClampNeg) →
        vp_in x2 8 ∧ (
        vp_in x3 8 ∧ (
        wpX0_rest x2.toNatClampNeg x3.toNatClampNeg σ2 (fun (σ7 : CS) =>
          wpX4_deliver x1 8 σ7 (fun (r8 : Int32) (σ9 : CS) =>
            Q r8 σ9))))) ∧
      (¬ 0 ≤ (cD σ2 x3.toNatClampNeg) →
        Q (2 : Int32) σ2))) ∧
    (r1 = 0 →
      Q (1 : Int32) σ2))
set_option maxRecDepth 100000 in
set_option maxHeartbeats 4000000 in
theorem wX4_remainder_0 {p : Program} {l : Launch} {e : Env} {s : State} {m : MethodId} {args : Array Value} {below : List Frame} {meth : Method} {c : Code} {D : va_G} {A : Nat → Prop} {g : mG} (hg : inj g) {x1 : Int32} {x2 : Int32} {x3 : Int32} (X : cx p m meth c s args cX4_remainder 4 RX4 D (tyG g)) (hr : meth.sig.returnType = (some .int)) {Q : Int32 → CS → Prop} : ∀ (σ : CS), wpX4_remainder_0 x1 x2 x3 Q σ → cW p l e rmX4_remainder s m args below meth c (MQ below (va_Qi Q (fun u t => wd D A (cT g u) t.heap) A) args s 0 0 A) D A (cT g σ) 0 4 [(0, .ref (g.1 2010)), (1, .int x1), (2, .int x2), (3, .int x3)] := by
  obtain ⟨hx, hb, hml, hown, hts, hK, hlk⟩ := id X
  intro σ h H locs ls hw hS hl
  unfold wpX4_remainder_0 at h
  refine lv_iload_n hx hb dX4_remainder_0 rfl (lv_at hl 1 rfl) ?_
  refine lv_iload_n hx hb dX4_remainder_1 rfl (lv_at hl 2 rfl) ?_
  refine lv_iload_n hx hb dX4_remainder_2 rfl (lv_at hl 3 rfl) ?_
  refine m_cSi (TT := cT g) (As := [.int x1, .int x2, .int x3]) (rest := []) X hl.1 hw hS (kX4_areRegisters hg h) mw_171 fX4_areRegisters ⟨rfl, rfl, Nat.le_of_ble_eq_true rfl, Nat.le_of_ble_eq_true rfl⟩ rfl rfl (Nat.le_of_ble_eq_true rfl) dX4_remainder_3 (fun r1 σ2 H locs h hw hS => ?_)
  refine lv_if_ne (tgt := 11) hx hb dX4_remainder_6 (by decide) (fun hc => ?_) (fun hc => ?_)
  · replace h := h.1 hc
    refine lv_aload_n hx hb dX4_remainder_11 rfl (lv_at hl 0 rfl) ?_
    refine m_get (v := .ref (g.1 2007)) X hw tG rfl inA_X4 0 (by decide) mw_13 rfl dX4_remainder_12 ?_
    refine lv_iload_n hx hb dX4_remainder_15 rfl (lv_at hl 3 rfl) ?_
    obtain ⟨hi3, h⟩ := h
    refine m_aald X hw tR 3 rfl hi3 dX4_remainder_16 ?_
    refine m_getN (v := .int (cD σ2 x3.toNatClampNeg)) X hw (tP (okP_r hi3)) rfl inA_X2 1 (by decide) (List.mem_append_left _ (List.mem_map.mpr ⟨_, List.mem_of_getElem? (i := 7) rfl, rfl⟩)) rfl dX4_remainder_17 ?_
    refine lv_if_ge (tgt := 25) hx hb dX4_remainder_20 (by decide) (fun hc => ?_) (fun hc => ?_)
    · replace h := h.1 hc
      refine lv_aload_n hx hb dX4_remainder_25 rfl (lv_at hl 0 rfl) ?_
      refine m_get (v := .ref (g.1 2002)) X hw tG rfl inA_X4 1 (by decide) mw_20 rfl dX4_remainder_26 ?_
      refine lv_aload_n hx hb dX4_remainder_29 rfl (lv_at hl 0 rfl) ?_
      refine m_get (v := .ref (g.1 2007)) X hw tG rfl inA_X4 0 (by decide) mw_13 rfl dX4_remainder_30 ?_
      refine lv_iload_n hx hb dX4_remainder_33 rfl (lv_at hl 2 rfl) ?_
      obtain ⟨hi4, h⟩ := h
      refine m_aald X hw tR 3 rfl hi4 dX4_remainder_34 ?_
      refine lv_aload_n hx hb dX4_remainder_35 rfl (lv_at hl 0 rfl) ?_
      refine m_get (v := .ref (g.1 2007)) X hw tG rfl inA_X4 0 (by decide) mw_13 rfl dX4_remainder_36 ?_
      refine lv_iload_n hx hb dX4_remainder_39 rfl (lv_at hl 3 rfl) ?_
      obtain ⟨hi5, h⟩ := h
      refine m_aald X hw tR 3 rfl hi5 dX4_remainder_40 ?_
      refine m_cVv (TT := cT g) (As := [.ref (g.1 (4 * x2.toNatClampNeg + 2)), .ref (g.1 (4 * x3.toNatClampNeg + 2))]) (rest := []) X hl.1 hw hS (kX0_rest hg (okP_r hi4) (okP_r hi5) h) mw_318 fX0_rest tB rfl rfl ⟨rfl, rfl, Nat.le_of_ble_eq_true rfl, Nat.le_of_ble_eq_true rfl⟩ rfl rfl (Nat.le_of_ble_eq_true rfl) dX4_remainder_41 (fun σ7 H locs h hw hS => ?_)
      refine lv_aload_n hx hb dX4_remainder_44 rfl (lv_at hl 0 rfl) ?_
      refine lv_iload_n hx hb dX4_remainder_45 rfl (lv_at hl 1 rfl) ?_
      refine lv_aload_n hx hb dX4_remainder_46 rfl (lv_at hl 0 rfl) ?_
      refine m_get (v := .ref (g.1 2002)) X hw tG rfl inA_X4 1 (by decide) mw_20 rfl dX4_remainder_47 ?_
      refine m_getN (v := .ref (g.1 (4 * 8 + 2))) X hw tB rfl inA_X0 0 (by decide) (List.mem_append_left _ (List.mem_map.mpr ⟨_, List.mem_of_getElem? (i := 6) rfl, rfl⟩)) rfl dX4_remainder_50 ?_
      refine m_cVi (TT := cT g) (As := [.int x1, .ref (g.1 (4 * 8 + 2))]) (rest := []) X hl.1 hw hS (kX4_deliver hg (by decide : (8 : Nat) < 20) h) mw_218 fX4_deliver tG rfl rfl ⟨rfl, rfl, Nat.le_of_ble_eq_true rfl, Nat.le_of_ble_eq_true rfl⟩ rfl rfl (Nat.le_of_ble_eq_true rfl) dX4_remainder_53 (fun r8 σ9 H locs h hw hS => ?_)
      exact m_iret X hr hw hS h dX4_remainder_56
    · replace h := h.2 hc
      refine lv_iconst (v := (2 : Int32)) hx hb dX4_remainder_23 (by decide) ?_
      exact m_iret X hr hw hS h dX4_remainder_24
  · replace h := h.2 hc
    refine lv_iconst (v := (1 : Int32)) hx hb dX4_remainder_9 (by decide) ?_
    exact m_iret X hr hw hS h dX4_remainder_10
def wpX4_remainder (x1 : Int32) (x2 : Int32) (x3 : Int32) (σ : CS) (Q : Int32 → CS → Prop) : Prop := wpX4_remainder_0 x1 x2 x3 Q σ
theorem kX4_remainder {l : Launch} {D : va_G} {A : Nat → Prop} {g : mG} (hg : inj g) {x1 : Int32} {x2 : Int32} {x3 : Int32} {σ : CS} {Q : Int32 → CS → Prop} (h : wpX4_remainder x1 x2 x3 σ Q) : Met l yX4_remainder (Cond.code yX4_remainder cX4_remainder 4 (some .int) :: wsA) rmX4_remainder (mPc D (tyG g) A (cT g σ) [.ref (g.1 2010), .int x1, .int x2, .int x3]) (va_Qi Q (fun u t => wd D A (cT g u) t.heap) A) 0 0 A :=
  m_met (by decide +kernel) (Nat.le_of_ble_eq_true rfl) (fun p e s m below meth c X hr H locs ls hw hS hl => wX4_remainder_0 hg X hr σ h H locs ls hw hS (lv_sub hl [0, 1, 2, 3] rfl))
theorem fX4_remainder : vfit yX4_remainder cX4_remainder 4 (some .int) 3 := ⟨mw_315, mw_316, mw_2, mw_317, by decide +kernel, by decide +kernel, by decide +kernel⟩
/-! BigPolys.quotient(III)I -/
def rmX4_quotient : Room := { frames := 4, cells := 0, slots := 0, locals := 115 }
def wpX4_quotient_0 (x1 : Int32) (x2 : Int32) (x3 : Int32) (Q : Int32 → CS → Prop) (σ : CS) : Prop :=
  wpX4_areRegisters x1 x2 x3 σ (fun (r1 : Int32) (σ2 : CS) =>
    (¬ r1 = 0 →
      vp_in x2 8 ∧ (
      vp_in x3 8 ∧ (
      wpX0_splits x2.toNatClampNeg x3.toNatClampNeg σ2 (fun (r5 : Int32) (σ6 : CS) =>
        (¬ r5 = 0 →
          wpX4_deliver x1 9 σ6 (fun (r7 : Int32) (σ8 : CS) =>
            Q r7 σ8)) ∧
        (r5 = 0 →
          Q (2 : Int32) σ6))))) ∧
    (r1 = 0 →
      Q (1 : Int32) σ2))
set_option maxRecDepth 100000 in
set_option maxHeartbeats 4000000 in
theorem wX4_quotient_0 {p : Program} {l : Launch} {e : Env} {s : State} {m : MethodId} {args : Array Value} {below : List Frame} {meth : Method} {c : Code} {D : va_G} {A : Nat → Prop} {g : mG} (hg : inj g) {x1 : Int32} {x2 : Int32} {x3 : Int32} (X : cx p m meth c s args cX4_quotient 4 RX4 D (tyG g)) (hr : meth.sig.returnType = (some .int)) {Q : Int32 → CS → Prop} : ∀ (σ : CS), wpX4_quotient_0 x1 x2 x3 Q σ → cW p l e rmX4_quotient s m args below meth c (MQ below (va_Qi Q (fun u t => wd D A (cT g u) t.heap) A) args s 0 0 A) D A (cT g σ) 0 4 [(0, .ref (g.1 2010)), (1, .int x1), (2, .int x2), (3, .int x3)] := by
  obtain ⟨hx, hb, hml, hown, hts, hK, hlk⟩ := id X
  intro σ h H locs ls hw hS hl
  unfold wpX4_quotient_0 at h
  refine lv_iload_n hx hb dX4_quotient_0 rfl (lv_at hl 1 rfl) ?_
  refine lv_iload_n hx hb dX4_quotient_1 rfl (lv_at hl 2 rfl) ?_
  refine lv_iload_n hx hb dX4_quotient_2 rfl (lv_at hl 3 rfl) ?_
  refine m_cSi (TT := cT g) (As := [.int x1, .int x2, .int x3]) (rest := []) X hl.1 hw hS (kX4_areRegisters hg h) mw_171 fX4_areRegisters ⟨rfl, rfl, Nat.le_of_ble_eq_true rfl, Nat.le_of_ble_eq_true rfl⟩ rfl rfl (Nat.le_of_ble_eq_true rfl) dX4_quotient_3 (fun r1 σ2 H locs h hw hS => ?_)
  refine lv_if_ne (tgt := 11) hx hb dX4_quotient_6 (by decide) (fun hc => ?_) (fun hc => ?_)
  · replace h := h.1 hc
    refine lv_aload_n hx hb dX4_quotient_11 rfl (lv_at hl 0 rfl) ?_
    refine m_get (v := .ref (g.1 2002)) X hw tG rfl inA_X4 1 (by decide) mw_20 rfl dX4_quotient_12 ?_
    refine lv_aload_n hx hb dX4_quotient_15 rfl (lv_at hl 0 rfl) ?_
    refine m_get (v := .ref (g.1 2007)) X hw tG rfl inA_X4 0 (by decide) mw_13 rfl dX4_quotient_16 ?_
    refine lv_iload_n hx hb dX4_quotient_19 rfl (lv_at hl 2 rfl) ?_
    obtain ⟨hi3, h⟩ := h
    refine m_aald X hw tR 3 rfl hi3 dX4_quotient_20 ?_
    refine lv_aload_n hx hb dX4_quotient_21 rfl (lv_at hl 0 rfl) ?_
    refine m_get (v := .ref (g.1 2007)) X hw tG rfl inA_X4 0 (by decide) mw_13 rfl dX4_quotient_22 ?_
    refine lv_iload_n hx hb dX4_quotient_25 rfl (lv_at hl 3 rfl) ?_
    obtain ⟨hi4, h⟩ := h
    refine m_aald X hw tR 3 rfl hi4 dX4_quotient_26 ?_
    refine m_cVi (TT := cT g) (As := [.ref (g.1 (4 * x2.toNatClampNeg + 2)), .ref (g.1 (4 * x3.toNatClampNeg + 2))]) (rest := []) X hl.1 hw hS (kX0_splits hg (okP_r hi3) (okP_r hi4) h) mw_352 fX0_splits tB rfl rfl ⟨rfl, rfl, Nat.le_of_ble_eq_true rfl, Nat.le_of_ble_eq_true rfl⟩ rfl rfl (Nat.le_of_ble_eq_true rfl) dX4_quotient_27 (fun r5 σ6 H locs h hw hS => ?_)
    refine lv_if_ne (tgt := 35) hx hb dX4_quotient_30 (by decide) (fun hc => ?_) (fun hc => ?_)
    · replace h := h.1 hc
      refine lv_aload_n hx hb dX4_quotient_35 rfl (lv_at hl 0 rfl) ?_
      refine lv_iload_n hx hb dX4_quotient_36 rfl (lv_at hl 1 rfl) ?_
      refine lv_aload_n hx hb dX4_quotient_37 rfl (lv_at hl 0 rfl) ?_
      refine m_get (v := .ref (g.1 2002)) X hw tG rfl inA_X4 1 (by decide) mw_20 rfl dX4_quotient_38 ?_
      refine m_getN (v := .ref (g.1 (4 * 9 + 2))) X hw tB rfl inA_X0 1 (by decide) (List.mem_append_left _ (List.mem_map.mpr ⟨_, List.mem_of_getElem? (i := 0) rfl, rfl⟩)) rfl dX4_quotient_41 ?_
      refine m_cVi (TT := cT g) (As := [.int x1, .ref (g.1 (4 * 9 + 2))]) (rest := []) X hl.1 hw hS (kX4_deliver hg (by decide : (9 : Nat) < 20) h) mw_218 fX4_deliver tG rfl rfl ⟨rfl, rfl, Nat.le_of_ble_eq_true rfl, Nat.le_of_ble_eq_true rfl⟩ rfl rfl (Nat.le_of_ble_eq_true rfl) dX4_quotient_44 (fun r7 σ8 H locs h hw hS => ?_)
      exact m_iret X hr hw hS h dX4_quotient_47
    · replace h := h.2 hc
      refine lv_iconst (v := (2 : Int32)) hx hb dX4_quotient_33 (by decide) ?_
      exact m_iret X hr hw hS h dX4_quotient_34
  · replace h := h.2 hc
    refine lv_iconst (v := (1 : Int32)) hx hb dX4_quotient_9 (by decide) ?_
    exact m_iret X hr hw hS h dX4_quotient_10
def wpX4_quotient (x1 : Int32) (x2 : Int32) (x3 : Int32) (σ : CS) (Q : Int32 → CS → Prop) : Prop := wpX4_quotient_0 x1 x2 x3 Q σ
theorem kX4_quotient {l : Launch} {D : va_G} {A : Nat → Prop} {g : mG} (hg : inj g) {x1 : Int32} {x2 : Int32} {x3 : Int32} {σ : CS} {Q : Int32 → CS → Prop} (h : wpX4_quotient x1 x2 x3 σ Q) : Met l yX4_quotient (Cond.code yX4_quotient cX4_quotient 4 (some .int) :: wsA) rmX4_quotient (mPc D (tyG g) A (cT g σ) [.ref (g.1 2010), .int x1, .int x2, .int x3]) (va_Qi Q (fun u t => wd D A (cT g u) t.heap) A) 0 0 A :=
  m_met (by decide +kernel) (Nat.le_of_ble_eq_true rfl) (fun p e s m below meth c X hr H locs ls hw hS hl => wX4_quotient_0 hg X hr σ h H locs ls hw hS (lv_sub hl [0, 1, 2, 3] rfl))
theorem fX4_quotient : vfit yX4_quotient cX4_quotient 4 (some .int) 3 := ⟨mw_349, mw_350, mw_2, mw_351, by decide +kernel, by decide +kernel, by decide +kernel⟩
/-! BigPolys.gcd(III)I -/
def rmX4_gcd : Room := { frames := 7, cells := 0, slots := 0, locals := 182 }
def wpX4_gcd_0 (x1 : Int32) (x2 : Int32) (x3 : Int32) (Q : Int32 → CS → Prop) (σ : CS) : Prop :=
  wpX4_areRegisters x1 x2 x3 σ (fun (r1 : Int32) (σ2 : CS) =>
    (¬ r1 = 0 →
      vp_in x2 8 ∧ (
      vp_in x3 8 ∧ (
      wpX1_commonDivisor x2.toNatClampNeg x3.toNatClampNeg σ2 (fun (q7 : Nat) (σ6 : CS) =>
        wpX4_deliver x1 q7 σ6 (fun (r8 : Int32) (σ9 : CS) =>
          Q r8 σ9))))) ∧
    (r1 = 0 →
      Q (1 : Int32) σ2))
set_option maxRecDepth 100000 in
set_option maxHeartbeats 4000000 in
theorem wX4_gcd_0 {p : Program} {l : Launch} {e : Env} {s : State} {m : MethodId} {args : Array Value} {below : List Frame} {meth : Method} {c : Code} {D : va_G} {A : Nat → Prop} {g : mG} (hg : inj g) {x1 : Int32} {x2 : Int32} {x3 : Int32} (X : cx p m meth c s args cX4_gcd 4 RX4 D (tyG g)) (hr : meth.sig.returnType = (some .int)) {Q : Int32 → CS → Prop} : ∀ (σ : CS), wpX4_gcd_0 x1 x2 x3 Q σ → cW p l e rmX4_gcd s m args below meth c (MQ below (va_Qi Q (fun u t => wd D A (cT g u) t.heap) A) args s 0 0 A) D A (cT g σ) 0 4 [(0, .ref (g.1 2010)), (1, .int x1), (2, .int x2), (3, .int x3)] := by
  obtain ⟨hx, hb, hml, hown, hts, hK, hlk⟩ := id X
  intro σ h H locs ls hw hS hl
  unfold wpX4_gcd_0 at h
  refine lv_iload_n hx hb dX4_gcd_0 rfl (lv_at hl 1 rfl) ?_
  refine lv_iload_n hx hb dX4_gcd_1 rfl (lv_at hl 2 rfl) ?_
  refine lv_iload_n hx hb dX4_gcd_2 rfl (lv_at hl 3 rfl) ?_
  refine m_cSi (TT := cT g) (As := [.int x1, .int x2, .int x3]) (rest := []) X hl.1 hw hS (kX4_areRegisters hg h) mw_171 fX4_areRegisters ⟨rfl, rfl, Nat.le_of_ble_eq_true rfl, Nat.le_of_ble_eq_true rfl⟩ rfl rfl (Nat.le_of_ble_eq_true rfl) dX4_gcd_3 (fun r1 σ2 H locs h hw hS => ?_)
  refine lv_if_ne (tgt := 11) hx hb dX4_gcd_6 (by decide) (fun hc => ?_) (fun hc => ?_)
  · replace h := h.1 hc
    refine lv_aload_n hx hb dX4_gcd_11 rfl (lv_at hl 0 rfl) ?_
    refine lv_iload_n hx hb dX4_gcd_12 rfl (lv_at hl 1 rfl) ?_
    refine lv_aload_n hx hb dX4_gcd_13 rfl (lv_at hl 0 rfl) ?_
    refine m_get (v := .ref (g.1 2006)) X hw tG rfl inA_X4 2 (by decide) mw_19 rfl dX4_gcd_14 ?_
    refine lv_aload_n hx hb dX4_gcd_17 rfl (lv_at hl 0 rfl) ?_
    refine m_get (v := .ref (g.1 2007)) X hw tG rfl inA_X4 0 (by decide) mw_13 rfl dX4_gcd_18 ?_
    refine lv_iload_n hx hb dX4_gcd_21 rfl (lv_at hl 2 rfl) ?_
    obtain ⟨hi3, h⟩ := h
    refine m_aald X hw tR 3 rfl hi3 dX4_gcd_22 ?_
    refine lv_aload_n hx hb dX4_gcd_23 rfl (lv_at hl 0 rfl) ?_
    refine m_get (v := .ref (g.1 2007)) X hw tG rfl inA_X4 0 (by decide) mw_13 rfl dX4_gcd_24 ?_
    refine lv_iload_n hx hb dX4_gcd_27 rfl (lv_at hl 3 rfl) ?_
    obtain ⟨hi4, h⟩ := h
    refine m_aald X hw tR 3 rfl hi4 dX4_gcd_28 ?_
    refine m_cVr (TT := fun u : Nat × CS => cT g u.2) (av := fun u => g.1 (4 * u.1 + 2)) (ok := fun u => u.1 < 20) (As := [.ref (g.1 (4 * x2.toNatClampNeg + 2)), .ref (g.1 (4 * x3.toNatClampNeg + 2))]) (rest := [.int x1, .ref (g.1 2010)]) X hl.1 hw hS (kX1_commonDivisor hg (okP_r hi3) (okP_r hi4) h) mw_403 fX1_commonDivisor tC rfl rfl ⟨rfl, rfl, Nat.le_of_ble_eq_true rfl, Nat.le_of_ble_eq_true rfl⟩ rfl rfl (Nat.le_of_ble_eq_true rfl) dX4_gcd_29 (fun u9 H locs h hq7 hw hS => ?_)
    obtain ⟨q7, σ6⟩ := u9
    replace hq7 : q7 < 20 := hq7
    refine m_cVi (TT := cT g) (As := [.int x1, .ref (g.1 (4 * q7 + 2))]) (rest := []) X hl.1 hw hS (kX4_deliver hg hq7 h) mw_218 fX4_deliver tG rfl rfl ⟨rfl, rfl, Nat.le_of_ble_eq_true rfl, Nat.le_of_ble_eq_true rfl⟩ rfl rfl (Nat.le_of_ble_eq_true rfl) dX4_gcd_32 (fun r8 σ9 H locs h hw hS => ?_)
    exact m_iret X hr hw hS h dX4_gcd_35
  · replace h := h.2 hc
    refine lv_iconst (v := (1 : Int32)) hx hb dX4_gcd_9 (by decide) ?_
    exact m_iret X hr hw hS h dX4_gcd_10
def wpX4_gcd (x1 : Int32) (x2 : Int32) (x3 : Int32) (σ : CS) (Q : Int32 → CS → Prop) : Prop := wpX4_gcd_0 x1 x2 x3 Q σ
theorem kX4_gcd {l : Launch} {D : va_G} {A : Nat → Prop} {g : mG} (hg : inj g) {x1 : Int32} {x2 : Int32} {x3 : Int32} {σ : CS} {Q : Int32 → CS → Prop} (h : wpX4_gcd x1 x2 x3 σ Q) : Met l yX4_gcd (Cond.code yX4_gcd cX4_gcd 4 (some .int) :: wsA) rmX4_gcd (mPc D (tyG g) A (cT g σ) [.ref (g.1 2010), .int x1, .int x2, .int x3]) (va_Qi Q (fun u t => wd D A (cT g u) t.heap) A) 0 0 A :=
  m_met (by decide +kernel) (Nat.le_of_ble_eq_true rfl) (fun p e s m below meth c X hr H locs ls hw hS hl => wX4_gcd_0 hg X hr σ h H locs ls hw hS (lv_sub hl [0, 1, 2, 3] rfl))
theorem fX4_gcd : vfit yX4_gcd cX4_gcd 4 (some .int) 3 := ⟨mw_400, mw_401, mw_2, mw_402, by decide +kernel, by decide +kernel, by decide +kernel⟩
/-! BigPolys.once(II)I -/
def rmX4_once : Room := { frames := 7, cells := 0, slots := 0, locals := 180 }
def wpX4_once_0 (x1 : Int32) (x2 : Int32) (Q : Int32 → CS → Prop) (σ : CS) : Prop :=
  wpX4_areRegisters x1 x2 x2 σ (fun (r1 : Int32) (σ2 : CS) =>
    (¬ r1 = 0 →
      vp_in x2 8 ∧ (
      (0 ≤ (cD σ2 x2.toNatClampNeg) →
        vp_in x2 8 ∧ (
        wpX1_squareFree x2.toNatClampNeg σ2 (fun (q7 : Nat) (σ6 : CS) =>
          wpX4_deliver x1 q7 σ6 (fun (r8 : Int32) (σ9 : CS) =>
            Q r8 σ9)))) ∧
      (¬ 0 ≤ (cD σ2 x2.toNatClampNeg) →
        Q (2 : Int32) σ2))) ∧
    (r1 = 0 →
      Q (1 : Int32) σ2))
set_option maxRecDepth 100000 in
set_option maxHeartbeats 4000000 in
theorem wX4_once_0 {p : Program} {l : Launch} {e : Env} {s : State} {m : MethodId} {args : Array Value} {below : List Frame} {meth : Method} {c : Code} {D : va_G} {A : Nat → Prop} {g : mG} (hg : inj g) {x1 : Int32} {x2 : Int32} (X : cx p m meth c s args cX4_once 3 RX4 D (tyG g)) (hr : meth.sig.returnType = (some .int)) {Q : Int32 → CS → Prop} : ∀ (σ : CS), wpX4_once_0 x1 x2 Q σ → cW p l e rmX4_once s m args below meth c (MQ below (va_Qi Q (fun u t => wd D A (cT g u) t.heap) A) args s 0 0 A) D A (cT g σ) 0 3 [(0, .ref (g.1 2010)), (1, .int x1), (2, .int x2)] := by
  obtain ⟨hx, hb, hml, hown, hts, hK, hlk⟩ := id X
  intro σ h H locs ls hw hS hl
  unfold wpX4_once_0 at h
  refine lv_iload_n hx hb dX4_once_0 rfl (lv_at hl 1 rfl) ?_
  refine lv_iload_n hx hb dX4_once_1 rfl (lv_at hl 2 rfl) ?_
  refine lv_iload_n hx hb dX4_once_2 rfl (lv_at hl 2 rfl) ?_
  refine m_cSi (TT := cT g) (As := [.int x1, .int x2, .int x2]) (rest := []) X hl.1 hw hS (kX4_areRegisters hg h) mw_171 fX4_areRegisters ⟨rfl, rfl, Nat.le_of_ble_eq_true rfl, Nat.le_of_ble_eq_true rfl⟩ rfl rfl (Nat.le_of_ble_eq_true rfl) dX4_once_3 (fun r1 σ2 H locs h hw hS => ?_)
  refine lv_if_ne (tgt := 11) hx hb dX4_once_6 (by decide) (fun hc => ?_) (fun hc => ?_)
  · replace h := h.1 hc
    refine lv_aload_n hx hb dX4_once_11 rfl (lv_at hl 0 rfl) ?_
    refine m_get (v := .ref (g.1 2007)) X hw tG rfl inA_X4 0 (by decide) mw_13 rfl dX4_once_12 ?_
    refine lv_iload_n hx hb dX4_once_15 rfl (lv_at hl 2 rfl) ?_
    obtain ⟨hi3, h⟩ := h
    refine m_aald X hw tR 3 rfl hi3 dX4_once_16 ?_
    refine m_getN (v := .int (cD σ2 x2.toNatClampNeg)) X hw (tP (okP_r hi3)) rfl inA_X2 1 (by decide) (List.mem_append_left _ (List.mem_map.mpr ⟨_, List.mem_of_getElem? (i := 7) rfl, rfl⟩)) rfl dX4_once_17 ?_
    refine lv_if_ge (tgt := 25) hx hb dX4_once_20 (by decide) (fun hc => ?_) (fun hc => ?_)
    · replace h := h.1 hc
      refine lv_aload_n hx hb dX4_once_25 rfl (lv_at hl 0 rfl) ?_
      refine lv_iload_n hx hb dX4_once_26 rfl (lv_at hl 1 rfl) ?_
      refine lv_aload_n hx hb dX4_once_27 rfl (lv_at hl 0 rfl) ?_
      refine m_get (v := .ref (g.1 2006)) X hw tG rfl inA_X4 2 (by decide) mw_19 rfl dX4_once_28 ?_
      refine lv_aload_n hx hb dX4_once_31 rfl (lv_at hl 0 rfl) ?_
      refine m_get (v := .ref (g.1 2007)) X hw tG rfl inA_X4 0 (by decide) mw_13 rfl dX4_once_32 ?_
      refine lv_iload_n hx hb dX4_once_35 rfl (lv_at hl 2 rfl) ?_
      obtain ⟨hi4, h⟩ := h
      refine m_aald X hw tR 3 rfl hi4 dX4_once_36 ?_
      refine m_cVr (TT := fun u : Nat × CS => cT g u.2) (av := fun u => g.1 (4 * u.1 + 2)) (ok := fun u => u.1 < 20) (As := [.ref (g.1 (4 * x2.toNatClampNeg + 2))]) (rest := [.int x1, .ref (g.1 2010)]) X hl.1 hw hS (kX1_squareFree hg (okP_r hi4) h) mw_484 fX1_squareFree tC rfl rfl ⟨rfl, rfl, Nat.le_of_ble_eq_true rfl, Nat.le_of_ble_eq_true rfl⟩ rfl rfl (Nat.le_of_ble_eq_true rfl) dX4_once_37 (fun u9 H locs h hq7 hw hS => ?_)
      obtain ⟨q7, σ6⟩ := u9
      replace hq7 : q7 < 20 := hq7
      refine m_cVi (TT := cT g) (As := [.int x1, .ref (g.1 (4 * q7 + 2))]) (rest := []) X hl.1 hw hS (kX4_deliver hg hq7 h) mw_218 fX4_deliver tG rfl rfl ⟨rfl, rfl, Nat.le_of_ble_eq_true rfl, Nat.le_of_ble_eq_true rfl⟩ rfl rfl (Nat.le_of_ble_eq_true rfl) dX4_once_40 (fun r8 σ9 H locs h hw hS => ?_)
      exact m_iret X hr hw hS h dX4_once_43
    · replace h := h.2 hc
      refine lv_iconst (v := (2 : Int32)) hx hb dX4_once_23 (by decide) ?_
      exact m_iret X hr hw hS h dX4_once_24
  · replace h := h.2 hc
    refine lv_iconst (v := (1 : Int32)) hx hb dX4_once_9 (by decide) ?_
    exact m_iret X hr hw hS h dX4_once_10
def wpX4_once (x1 : Int32) (x2 : Int32) (σ : CS) (Q : Int32 → CS → Prop) : Prop := wpX4_once_0 x1 x2 Q σ
theorem kX4_once {l : Launch} {D : va_G} {A : Nat → Prop} {g : mG} (hg : inj g) {x1 : Int32} {x2 : Int32} {σ : CS} {Q : Int32 → CS → Prop} (h : wpX4_once x1 x2 σ Q) : Met l yX4_once (Cond.code yX4_once cX4_once 3 (some .int) :: wsA) rmX4_once (mPc D (tyG g) A (cT g σ) [.ref (g.1 2010), .int x1, .int x2]) (va_Qi Q (fun u t => wd D A (cT g u) t.heap) A) 0 0 A :=
  m_met (by decide +kernel) (Nat.le_of_ble_eq_true rfl) (fun p e s m below meth c X hr H locs ls hw hS hl => wX4_once_0 hg X hr σ h H locs ls hw hS (lv_sub hl [0, 1, 2] rfl))
theorem fX4_once : vfit yX4_once cX4_once 3 (some .int) 2 := ⟨mw_481, mw_482, mw_2, mw_483, by decide +kernel, by decide +kernel, by decide +kernel⟩
