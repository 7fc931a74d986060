/-! BigPolysModel.isRegister(I)Z -/
def rmX5_isRegister : Room := { frames := 0, cells := 0, slots := 0, locals := 0 }
def wpX5_isRegister_14 (x1 : Int32) (Q : Int32 → RS → Prop) (σ : RS) : Prop :=
  Q (0 : Int32) σ
set_option maxRecDepth 100000 in
set_option maxHeartbeats 4000000 in
theorem wX5_isRegister_14 {p : Program} {l : Launch} {e : Env} {s : State} {m : MethodId} {args : Array Value} {below : List Frame} {meth : Method} {c : Code} {D : va_G} {A : Nat → Prop} {g : mG} (hg : inj g) {x1 : Int32} (X : cx p m meth c s args cX5_isRegister 1 RX5 D (tyG g)) (hr : meth.sig.returnType = (some .boolean)) {Q : Int32 → RS → Prop} : ∀ (σ : RS), wpX5_isRegister_14 x1 Q σ → cW p l e rmX5_isRegister s m args below meth c (MQ below (va_Qi Q (fun u t => wd D A (rT g u) t.heap) A) args s 0 0 A) D A (rT g σ) 14 1 [(0, .int x1)] := by
  obtain ⟨hx, hb, hml, hown, hts, hK, hlk⟩ := id X
  intro σ h H locs ls hw hS hl
  unfold wpX5_isRegister_14 at h
  refine lv_iconst (v := (0 : Int32)) hx hb dX5_isRegister_14 (by decide) ?_
  exact m_zret X hr rfl hw hS h dX5_isRegister_15
def wpX5_isRegister_0 (x1 : Int32) (Q : Int32 → RS → Prop) (σ : RS) : Prop :=
  (x1 < 0 →
    wpX5_isRegister_14 x1 Q σ) ∧
  (¬ x1 < 0 →
    ((8 : Int32) ≤ x1 →
      wpX5_isRegister_14 x1 Q σ) ∧
    (¬ (8 : Int32) ≤ x1 →
      Q (1 : Int32) σ))
set_option maxRecDepth 100000 in
set_option maxHeartbeats 4000000 in
theorem wX5_isRegister_0 {p : Program} {l : Launch} {e : Env} {s : State} {m : MethodId} {args : Array Value} {below : List Frame} {meth : Method} {c : Code} {D : va_G} {A : Nat → Prop} {g : mG} (hg : inj g) {x1 : Int32} (X : cx p m meth c s args cX5_isRegister 1 RX5 D (tyG g)) (hr : meth.sig.returnType = (some .boolean)) {Q : Int32 → RS → Prop} : ∀ (σ : RS), wpX5_isRegister_0 x1 Q σ → cW p l e rmX5_isRegister s m args below meth c (MQ below (va_Qi Q (fun u t => wd D A (rT g u) t.heap) A) args s 0 0 A) D A (rT g σ) 0 1 [(0, .int x1)] := by
  obtain ⟨hx, hb, hml, hown, hts, hK, hlk⟩ := id X
  intro σ h H locs ls hw hS hl
  unfold wpX5_isRegister_0 at h
  refine lv_iload_n hx hb dX5_isRegister_0 rfl (lv_at hl 0 rfl) ?_
  refine lv_if_lt (tgt := 14) hx hb dX5_isRegister_1 (by decide) (fun hc => ?_) (fun hc => ?_)
  · replace h := h.1 hc
    exact wX5_isRegister_14 hg X hr _ h H locs ls hw hS (lv_sub hl [0] rfl)
  · replace h := h.2 hc
    refine lv_iload_n hx hb dX5_isRegister_4 rfl (lv_at hl 0 rfl) ?_
    refine lv_bipush (v := (8 : Int32)) hx hb dX5_isRegister_5 (by decide) ?_
    refine lv_icmp_ge (tgt := 14) hx hb dX5_isRegister_7 (by decide) (fun hc => ?_) (fun hc => ?_)
    · replace h := h.1 hc
      exact wX5_isRegister_14 hg X hr _ h H locs ls hw hS (lv_sub hl [0] rfl)
    · replace h := h.2 hc
      refine lv_iconst (v := (1 : Int32)) hx hb dX5_isRegister_10 (by decide) ?_
      refine lv_goto (tgt := 15) hx hb dX5_isRegister_11 (by decide) ?_
      exact m_zret X hr rfl hw hS h dX5_isRegister_15
def wpX5_isRegister (x1 : Int32) (σ : RS) (Q : Int32 → RS → Prop) : Prop := wpX5_isRegister_0 x1 Q σ
theorem kX5_isRegister {l : Launch} {D : va_G} {A : Nat → Prop} {g : mG} (hg : inj g) {x1 : Int32} {σ : RS} {Q : Int32 → RS → Prop} (h : wpX5_isRegister x1 σ Q) : Met l yX5_isRegister (Cond.code yX5_isRegister cX5_isRegister 1 (some .boolean) :: wsA) rmX5_isRegister (mPc D (tyG g) A (rT g σ) [.int x1]) (va_Qi Q (fun u t => wd D A (rT g u) t.heap) A) 0 0 A :=
  m_met (by decide +kernel) (Nat.le_of_ble_eq_true rfl) (fun p e s m below meth c X hr H locs ls hw hS hl => wX5_isRegister_0 hg X hr σ h H locs ls hw hS (lv_sub hl [0] rfl))
theorem fX5_isRegister : sfit yX5_isRegister cX5_isRegister 1 (some .boolean) 1 := ⟨mw_114, mw_5, mw_115, by decide +kernel, by decide +kernel, by decide +kernel⟩
/-! BigPolysModel.isPower(I)Z -/
def rmX5_isPower : Room := { frames := 0, cells := 0, slots := 0, locals := 0 }
def wpX5_isPower_14 (x1 : Int32) (Q : Int32 → RS → Prop) (σ : RS) : Prop :=
  Q (0 : Int32) σ
set_option maxRecDepth 100000 in
set_option maxHeartbeats 4000000 in
theorem wX5_isPower_14 {p : Program} {l : Launch} {e : Env} {s : State} {m : MethodId} {args : Array Value} {below : List Frame} {meth : Method} {c : Code} {D : va_G} {A : Nat → Prop} {g : mG} (hg : inj g) {x1 : Int32} (X : cx p m meth c s args cX5_isPower 1 RX5 D (tyG g)) (hr : meth.sig.returnType = (some .boolean)) {Q : Int32 → RS → Prop} : ∀ (σ : RS), wpX5_isPower_14 x1 Q σ → cW p l e rmX5_isPower s m args below meth c (MQ below (va_Qi Q (fun u t => wd D A (rT g u) t.heap) A) args s 0 0 A) D A (rT g σ) 14 1 [(0, .int x1)] := by
  obtain ⟨hx, hb, hml, hown, hts, hK, hlk⟩ := id X
  intro σ h H locs ls hw hS hl
  unfold wpX5_isPower_14 at h
  refine lv_iconst (v := (0 : Int32)) hx hb dX5_isPower_14 (by decide) ?_
  exact m_zret X hr rfl hw hS h dX5_isPower_15
def wpX5_isPower_0 (x1 : Int32) (Q : Int32 → RS → Prop) (σ : RS) : Prop :=
  (x1 < 0 →
    wpX5_isPower_14 x1 Q σ) ∧
  (¬ x1 < 0 →
    ((8 : Int32) < x1 →
      wpX5_isPower_14 x1 Q σ) ∧
    (¬ (8 : Int32) < x1 →
      Q (1 : Int32) σ))
set_option maxRecDepth 100000 in
set_option maxHeartbeats 4000000 in
theorem wX5_isPower_0 {p : Program} {l : Launch} {e : Env} {s : State} {m : MethodId} {args : Array Value} {below : List Frame} {meth : Method} {c : Code} {D : va_G} {A : Nat → Prop} {g : mG} (hg : inj g) {x1 : Int32} (X : cx p m meth c s args cX5_isPower 1 RX5 D (tyG g)) (hr : meth.sig.returnType = (some .boolean)) {Q : Int32 → RS → Prop} : ∀ (σ : RS), wpX5_isPower_0 x1 Q σ → cW p l e rmX5_isPower s m args below meth c (MQ below (va_Qi Q (fun u t => wd D A (rT g u) t.heap) A) args s 0 0 A) D A (rT g σ) 0 1 [(0, .int x1)] := by
  obtain ⟨hx, hb, hml, hown, hts, hK, hlk⟩ := id X
  intro σ h H locs ls hw hS hl
  unfold wpX5_isPower_0 at h
  refine lv_iload_n hx hb dX5_isPower_0 rfl (lv_at hl 0 rfl) ?_
  refine lv_if_lt (tgt := 14) hx hb dX5_isPower_1 (by decide) (fun hc => ?_) (fun hc => ?_)
  · replace h := h.1 hc
    exact wX5_isPower_14 hg X hr _ h H locs ls hw hS (lv_sub hl [0] rfl)
  · replace h := h.2 hc
    refine lv_iload_n hx hb dX5_isPower_4 rfl (lv_at hl 0 rfl) ?_
    refine lv_bipush (v := (8 : Int32)) hx hb dX5_isPower_5 (by decide) ?_
    refine lv_icmp_gt (tgt := 14) hx hb dX5_isPower_7 (by decide) (fun hc => ?_) (fun hc => ?_)
    · replace h := h.1 hc
      exact wX5_isPower_14 hg X hr _ h H locs ls hw hS (lv_sub hl [0] rfl)
    · replace h := h.2 hc
      refine lv_iconst (v := (1 : Int32)) hx hb dX5_isPower_10 (by decide) ?_
      refine lv_goto (tgt := 15) hx hb dX5_isPower_11 (by decide) ?_
      exact m_zret X hr rfl hw hS h dX5_isPower_15
def wpX5_isPower (x1 : Int32) (σ : RS) (Q : Int32 → RS → Prop) : Prop := wpX5_isPower_0 x1 Q σ
theorem kX5_isPower {l : Launch} {D : va_G} {A : Nat → Prop} {g : mG} (hg : inj g) {x1 : Int32} {σ : RS} {Q : Int32 → RS → Prop} (h : wpX5_isPower x1 σ Q) : Met l yX5_isPower (Cond.code yX5_isPower cX5_isPower 1 (some .boolean) :: wsA) rmX5_isPower (mPc D (tyG g) A (rT g σ) [.int x1]) (va_Qi Q (fun u t => wd D A (rT g u) t.heap) A) 0 0 A :=
  m_met (by decide +kernel) (Nat.le_of_ble_eq_true rfl) (fun p e s m below meth c X hr H locs ls hw hS hl => wX5_isPower_0 hg X hr σ h H locs ls hw hS (lv_sub hl [0] rfl))
theorem fX5_isPower : sfit yX5_isPower cX5_isPower 1 (some .boolean) 1 := ⟨mw_117, mw_5, mw_118, by decide +kernel, by decide +kernel, by decide +kernel⟩
/-! BigPolysModel.result(II)I -/
def rmX5_result : Room := { frames := 2, cells := 0, slots := 0, locals := 46 }
def wpX5_result_57 (x1 : Int32) (x2 : Int32) (Q : Int32 → RS → Prop) (σ : RS) : Prop :=
  Q (0 : Int32) σ
set_option maxRecDepth 100000 in
set_option maxHeartbeats 4000000 in
theorem wX5_result_57 {p : Program} {l : Launch} {e : Env} {s : State} {m : MethodId} {args : Array Value} {below : List Frame} {meth : Method} {c : Code} {D : va_G} {A : Nat → Prop} {g : mG} (hg : inj g) {x1 : Int32} {x2 : Int32} (X : cx p m meth c s args cX5_result 4 RX5 D (tyG g)) (hr : meth.sig.returnType = (some .int)) {Q : Int32 → RS → Prop} : ∀ (σ : RS), wpX5_result_57 x1 x2 Q σ → cW p l e rmX5_result s m args below meth c (MQ below (va_Qi Q (fun u t => wd D A (rT g u) t.heap) A) args s 0 0 A) D A (rT g σ) 57 4 [(0, .ref (g.1 5000)), (1, .int x1), (2, .int x2)] := by
  obtain ⟨hx, hb, hml, hown, hts, hK, hlk⟩ := id X
  intro σ h H locs ls hw hS hl
  unfold wpX5_result_57 at h
  refine lv_iconst (v := (0 : Int32)) hx hb dX5_result_57 (by decide) ?_
  exact m_iret X hr hw hS h dX5_result_58
def wbX5_result_2 (x1 : Int32) (x2 : Int32) (Q : Int32 → RS → Prop) (N2 : Int32 → RS → Prop) (i3 : Int32) (σ : RS) : Prop :=
  ((9 : Int32) ≤ i3 →
    wpX5_copyAll x2 x1 σ (fun (σ2 : RS) =>
      (¬ (rK σ2 0) = x1 →
        wpX5_result_57 x1 x2 Q (wK σ2 0 (rK σ2 0))) ∧
      ((rK σ2 0) = x1 →
        wpX5_result_57 x1 x2 Q (wK σ2 0 (-1 : Int32))))) ∧
  (¬ (9 : Int32) ≤ i3 →
    wpX5_at x2 i3 σ (fun (r3 : Int32) (σ4 : RS) =>
      wpX5_bitsOf r3 σ4 (fun (r5 : Int32) (σ6 : RS) =>
        (r5 ≤ (186 : Int32) →
          ∀ a7 : Int32, a7 = i3 + (1 : Int32) →
          N2 a7 σ6) ∧
        (¬ r5 ≤ (186 : Int32) →
          Q (3 : Int32) σ6))))
set_option maxRecDepth 100000 in
set_option maxHeartbeats 4000000 in
theorem wX5_result_2 {p : Program} {l : Launch} {e : Env} {s : State} {m : MethodId} {args : Array Value} {below : List Frame} {meth : Method} {c : Code} {D : va_G} {A : Nat → Prop} {g : mG} (hg : inj g) {x1 : Int32} {x2 : Int32} (X : cx p m meth c s args cX5_result 4 RX5 D (tyG g)) (hr : meth.sig.returnType = (some .int)) {Q : Int32 → RS → Prop} : ∀ (n : Nat) (i3 : Int32) (σ : RS), lq2 (wbX5_result_2 x1 x2 Q) n i3 σ → cW p l e rmX5_result s m args below meth c (MQ below (va_Qi Q (fun u t => wd D A (rT g u) t.heap) A) args s 0 0 A) D A (rT g σ) 2 4 [(0, .ref (g.1 5000)), (1, .int x1), (2, .int x2), (3, .int i3)] := by
  obtain ⟨hx, hb, hml, hown, hts, hK, hlk⟩ := id X
  intro n
  induction n with
  | zero =>
    intro i3 σ h
    exact h.elim
  | succ n hN2 =>
    intro i3 σ h H locs ls hw hS hl
    replace h : wbX5_result_2 x1 x2 Q (lq2 (wbX5_result_2 x1 x2 Q) n) i3 σ := h
    unfold wbX5_result_2 at h
    refine lv_iload_n hx hb dX5_result_2 rfl (lv_at hl 3 rfl) ?_
    refine lv_bipush (v := (9 : Int32)) hx hb dX5_result_3 (by decide) ?_
    refine lv_icmp_ge (tgt := 31) hx hb dX5_result_5 (by decide) (fun hc => ?_) (fun hc => ?_)
    · replace h := h.1 hc
      refine lv_aload_n hx hb dX5_result_31 rfl (lv_at hl 0 rfl) ?_
      refine lv_iload_n hx hb dX5_result_32 rfl (lv_at hl 2 rfl) ?_
      refine lv_iload_n hx hb dX5_result_33 rfl (lv_at hl 1 rfl) ?_
      refine m_cVv (TT := rT g) (As := [.int x2, .int x1]) (rest := []) X hl.1 hw hS (kX5_copyAll hg h) mw_239 fX5_copyAll qM rfl rfl ⟨rfl, rfl, Nat.le_of_ble_eq_true rfl, Nat.le_of_ble_eq_true rfl⟩ rfl rfl (Nat.le_of_ble_eq_true rfl) dX5_result_34 (fun σ2 H locs h hw hS => ?_)
      refine lv_aload_n hx hb dX5_result_37 rfl (lv_at hl 0 rfl) ?_
      refine lv_aload_n hx hb dX5_result_38 rfl (lv_at hl 0 rfl) ?_
      refine m_get (v := .int (rK σ2 0)) X hw qM rfl inA_X5 4 (by decide) mw_81 rfl dX5_result_39 ?_
      refine lv_iload_n hx hb dX5_result_42 rfl (lv_at hl 1 rfl) ?_
      refine lv_icmp_ne (tgt := 50) hx hb dX5_result_43 (by decide) (fun hc => ?_) (fun hc => ?_)
      · replace h := h.1 hc
        refine lv_aload_n hx hb dX5_result_50 rfl (lv_at hl 0 rfl) ?_
        refine m_get (v := .int (rK σ2 0)) X hw qM rfl inA_X5 4 (by decide) mw_81 rfl dX5_result_51 ?_
        refine m_put (T' := rT g (wK σ2 0 (rK σ2 0))) X hw hS qM rfl inA_X5 tyX5 tyX5_ok nmX5 4 (by decide) mw_81 rfl pd_I (Nat.le_of_ble_eq_true rfl) (vK hg (by decide)) dX5_result_54 (fun H locs hw hS => ?_)
        exact wX5_result_57 hg X hr _ h H locs ls hw hS (lv_sub hl [0, 1, 2] rfl)
      · replace h := h.2 hc
        refine lv_iconst (v := (-1 : Int32)) hx hb dX5_result_46 (by decide) ?_
        refine lv_goto (tgt := 54) hx hb dX5_result_47 (by decide) ?_
        refine m_put (T' := rT g (wK σ2 0 (-1 : Int32))) X hw hS qM rfl inA_X5 tyX5 tyX5_ok nmX5 4 (by decide) mw_81 rfl pd_I (Nat.le_of_ble_eq_true rfl) (vK hg (by decide)) dX5_result_54 (fun H locs hw hS => ?_)
        exact wX5_result_57 hg X hr _ h H locs ls hw hS (lv_sub hl [0, 1, 2] rfl)
    · replace h := h.2 hc
      refine lv_aload_n hx hb dX5_result_8 rfl (lv_at hl 0 rfl) ?_
      refine lv_iload_n hx hb dX5_result_9 rfl (lv_at hl 2 rfl) ?_
      refine lv_iload_n hx hb dX5_result_10 rfl (lv_at hl 3 rfl) ?_
      refine m_cSi (TT := rT g) (As := [.int x2, .int i3]) (rest := [.ref (g.1 5000)]) X hl.1 hw hS (kX5_at hg h) mw_119 fX5_at ⟨rfl, rfl, Nat.le_of_ble_eq_true rfl, Nat.le_of_ble_eq_true rfl⟩ rfl rfl (Nat.le_of_ble_eq_true rfl) dX5_result_11 (fun r3 σ4 H locs h hw hS => ?_)
      refine m_cVi (TT := rT g) (As := [.int r3]) (rest := []) X hl.1 hw hS (kX5_bitsOf hg h) mw_235 fX5_bitsOf qM rfl rfl ⟨rfl, rfl, Nat.le_of_ble_eq_true rfl, Nat.le_of_ble_eq_true rfl⟩ rfl rfl (Nat.le_of_ble_eq_true rfl) dX5_result_14 (fun r5 σ6 H locs h hw hS => ?_)
      refine lv_sipush (v := (186 : Int32)) hx hb dX5_result_17 (by decide) ?_
      refine lv_icmp_le (tgt := 25) hx hb dX5_result_20 (by decide) (fun hc => ?_) (fun hc => ?_)
      · replace h := h.1 hc
        obtain ⟨a7, ea7⟩ : ∃ z : Int32, z = i3 + (1 : Int32) := ⟨_, rfl⟩
        replace h := h a7 ea7
        refine lv_iinc (v := a7) (lv' := [(3, .int a7), (0, .ref (g.1 5000)), (1, .int x1), (2, .int x2)]) hx hb dX5_result_25 hl (k := 3) rfl (by rw [ea7]; rfl) (by decide) rfl (fun ls hl => ?_)
        refine lv_goto (tgt := 2) hx hb dX5_result_28 (by decide) ?_
        exact hN2 a7 _ h H locs ls hw hS (lv_sub hl [1, 2, 3, 0] rfl)
      · replace h := h.2 hc
        refine lv_iconst (v := (3 : Int32)) hx hb dX5_result_23 (by decide) ?_
        exact m_iret X hr hw hS h dX5_result_24
def wpX5_result_0 (x1 : Int32) (x2 : Int32) (Q : Int32 → RS → Prop) (σ : RS) : Prop :=
  ∃ n, lq2 (wbX5_result_2 x1 x2 Q) n (0 : Int32) σ
set_option maxRecDepth 100000 in
set_option maxHeartbeats 4000000 in
theorem wX5_result_0 {p : Program} {l : Launch} {e : Env} {s : State} {m : MethodId} {args : Array Value} {below : List Frame} {meth : Method} {c : Code} {D : va_G} {A : Nat → Prop} {g : mG} (hg : inj g) {x1 : Int32} {x2 : Int32} (X : cx p m meth c s args cX5_result 4 RX5 D (tyG g)) (hr : meth.sig.returnType = (some .int)) {Q : Int32 → RS → Prop} : ∀ (σ : RS), wpX5_result_0 x1 x2 Q σ → cW p l e rmX5_result s m args below meth c (MQ below (va_Qi Q (fun u t => wd D A (rT g u) t.heap) A) args s 0 0 A) D A (rT g σ) 0 4 [(0, .ref (g.1 5000)), (1, .int x1), (2, .int x2)] := by
  obtain ⟨hx, hb, hml, hown, hts, hK, hlk⟩ := id X
  intro σ h H locs ls hw hS hl
  unfold wpX5_result_0 at h
  refine lv_iconst (v := (0 : Int32)) hx hb dX5_result_0 (by decide) ?_
  refine lv_istore_n (lv' := [(3, .int (0 : Int32)), (0, .ref (g.1 5000)), (1, .int x1), (2, .int x2)]) hx hb dX5_result_1 rfl hl (by decide) rfl (fun ls hl => ?_)
  obtain ⟨n9, h⟩ := h
  exact wX5_result_2 hg X hr n9 (0 : Int32) _ h H locs ls hw hS (lv_sub hl [1, 2, 3, 0] rfl)
def wpX5_result (x1 : Int32) (x2 : Int32) (σ : RS) (Q : Int32 → RS → Prop) : Prop := wpX5_result_0 x1 x2 Q σ
theorem kX5_result {l : Launch} {D : va_G} {A : Nat → Prop} {g : mG} (hg : inj g) {x1 : Int32} {x2 : Int32} {σ : RS} {Q : Int32 → RS → Prop} (h : wpX5_result x1 x2 σ Q) : Met l yX5_result (Cond.code yX5_result cX5_result 4 (some .int) :: wsA) rmX5_result (mPc D (tyG g) A (rT g σ) [.ref (g.1 5000), .int x1, .int x2]) (va_Qi Q (fun u t => wd D A (rT g u) t.heap) A) 0 0 A :=
  m_met (by decide +kernel) (Nat.le_of_ble_eq_true rfl) (fun p e s m below meth c X hr H locs ls hw hS hl => wX5_result_0 hg X hr σ h H locs ls hw hS (lv_sub hl [0, 1, 2] rfl))
theorem fX5_result : vfit yX5_result cX5_result 4 (some .int) 2 := ⟨mw_232, mw_233, mw_5, mw_234, by decide +kernel, by decide +kernel, by decide +kernel⟩
/-! BigPolysModel.coefficient(III)Z -/
def rmX5_coefficient : Room := { frames := 2, cells := 0, slots := 0, locals := 42 }
def wpX5_coefficient_44 (x1 : Int32) (x2 : Int32) (x3 : Int32) (Q : Int32 → RS → Prop) (σ : RS) : Prop :=
  wpX5_at x1 x2 (wK σ 3 (0 : Int32)) (fun (r1 : Int32) (σ2 : RS) =>
    wpX5_zero r1 σ2 (fun (σ4 : RS) =>
      wpX5_measure x1 σ4 (fun (σ6 : RS) =>
        Q (1 : Int32) σ6)))
set_option maxRecDepth 100000 in
set_option maxHeartbeats 4000000 in
theorem wX5_coefficient_44 {p : Program} {l : Launch} {e : Env} {s : State} {m : MethodId} {args : Array Value} {below : List Frame} {meth : Method} {c : Code} {D : va_G} {A : Nat → Prop} {g : mG} (hg : inj g) {x1 : Int32} {x2 : Int32} {x3 : Int32} (X : cx p m meth c s args cX5_coefficient 4 RX5 D (tyG g)) (hr : meth.sig.returnType = (some .boolean)) {Q : Int32 → RS → Prop} : ∀ (σ : RS), wpX5_coefficient_44 x1 x2 x3 Q σ → cW p l e rmX5_coefficient s m args below meth c (MQ below (va_Qi Q (fun u t => wd D A (rT g u) t.heap) A) args s 0 0 A) D A (rT g σ) 44 4 [(0, .ref (g.1 5000)), (1, .int x1), (2, .int x2), (3, .int x3)] := by
  obtain ⟨hx, hb, hml, hown, hts, hK, hlk⟩ := id X
  intro σ h H locs ls hw hS hl
  unfold wpX5_coefficient_44 at h
  refine lv_aload_n hx hb dX5_coefficient_44 rfl (lv_at hl 0 rfl) ?_
  refine lv_iconst (v := (0 : Int32)) hx hb dX5_coefficient_45 (by decide) ?_
  refine m_put (T' := rT g (wK σ 3 (0 : Int32))) X hw hS qM rfl inA_X5 tyX5 tyX5_ok nmX5 7 (by decide) mw_112 rfl pd_I (Nat.le_of_ble_eq_true rfl) (vK hg (by decide)) dX5_coefficient_46 (fun H locs hw hS => ?_)
  refine lv_aload_n hx hb dX5_coefficient_49 rfl (lv_at hl 0 rfl) ?_
  refine lv_iload_n hx hb dX5_coefficient_50 rfl (lv_at hl 1 rfl) ?_
  refine lv_iload_n hx hb dX5_coefficient_51 rfl (lv_at hl 2 rfl) ?_
  refine m_cSi (TT := rT g) (As := [.int x1, .int x2]) (rest := [.ref (g.1 5000)]) X hl.1 hw hS (kX5_at hg h) mw_119 fX5_at ⟨rfl, rfl, Nat.le_of_ble_eq_true rfl, Nat.le_of_ble_eq_true rfl⟩ rfl rfl (Nat.le_of_ble_eq_true rfl) dX5_coefficient_52 (fun r1 σ2 H locs h hw hS => ?_)
  refine m_cVv (TT := rT g) (As := [.int r1]) (rest := []) X hl.1 hw hS (kX5_zero hg h) mw_122 fX5_zero qM rfl rfl ⟨rfl, rfl, Nat.le_of_ble_eq_true rfl, Nat.le_of_ble_eq_true rfl⟩ rfl rfl (Nat.le_of_ble_eq_true rfl) dX5_coefficient_55 (fun σ4 H locs h hw hS => ?_)
  refine lv_aload_n hx hb dX5_coefficient_58 rfl (lv_at hl 0 rfl) ?_
  refine lv_iload_n hx hb dX5_coefficient_59 rfl (lv_at hl 1 rfl) ?_
  refine m_cVv (TT := rT g) (As := [.int x1]) (rest := []) X hl.1 hw hS (kX5_measure hg h) mw_126 fX5_measure qM rfl rfl ⟨rfl, rfl, Nat.le_of_ble_eq_true rfl, Nat.le_of_ble_eq_true rfl⟩ rfl rfl (Nat.le_of_ble_eq_true rfl) dX5_coefficient_60 (fun σ6 H locs h hw hS => ?_)
  refine lv_iconst (v := (1 : Int32)) hx hb dX5_coefficient_63 (by decide) ?_
  exact m_zret X hr rfl hw hS h dX5_coefficient_64
def wpX5_coefficient_19 (x1 : Int32) (x2 : Int32) (x3 : Int32) (Q : Int32 → RS → Prop) (σ : RS) : Prop :=
  Q (0 : Int32) σ
set_option maxRecDepth 100000 in
set_option maxHeartbeats 4000000 in
theorem wX5_coefficient_19 {p : Program} {l : Launch} {e : Env} {s : State} {m : MethodId} {args : Array Value} {below : List Frame} {meth : Method} {c : Code} {D : va_G} {A : Nat → Prop} {g : mG} (hg : inj g) {x1 : Int32} {x2 : Int32} {x3 : Int32} (X : cx p m meth c s args cX5_coefficient 4 RX5 D (tyG g)) (hr : meth.sig.returnType = (some .boolean)) {Q : Int32 → RS → Prop} : ∀ (σ : RS), wpX5_coefficient_19 x1 x2 x3 Q σ → cW p l e rmX5_coefficient s m args below meth c (MQ below (va_Qi Q (fun u t => wd D A (rT g u) t.heap) A) args s 0 0 A) D A (rT g σ) 19 4 [(0, .ref (g.1 5000)), (1, .int x1), (2, .int x2), (3, .int x3)] := by
  obtain ⟨hx, hb, hml, hown, hts, hK, hlk⟩ := id X
  intro σ h H locs ls hw hS hl
  unfold wpX5_coefficient_19 at h
  refine lv_iconst (v := (0 : Int32)) hx hb dX5_coefficient_19 (by decide) ?_
  exact m_zret X hr rfl hw hS h dX5_coefficient_20
def wpX5_coefficient_0 (x1 : Int32) (x2 : Int32) (x3 : Int32) (Q : Int32 → RS → Prop) (σ : RS) : Prop :=
  wpX5_isRegister x1 (wK σ 0 (-1 : Int32)) (fun (r7 : Int32) (σ8 : RS) =>
    (r7 = 0 →
      wpX5_coefficient_19 x1 x2 x3 Q σ8) ∧
    (¬ r7 = 0 →
      wpX5_isPower x2 σ8 (fun (r9 : Int32) (σ10 : RS) =>
        (¬ r9 = 0 →
          (0 ≤ x3 →
            wpX5_coefficient_44 x1 x2 x3 Q (wK (wK (wK σ10 0 x1) 1 x2) 2 (1 : Int32))) ∧
          (¬ 0 ≤ x3 →
            wpX5_coefficient_44 x1 x2 x3 Q (wK (wK (wK σ10 0 x1) 1 x2) 2 (-1 : Int32)))) ∧
        (r9 = 0 →
          wpX5_coefficient_19 x1 x2 x3 Q σ10))))
set_option maxRecDepth 100000 in
set_option maxHeartbeats 4000000 in
theorem wX5_coefficient_0 {p : Program} {l : Launch} {e : Env} {s : State} {m : MethodId} {args : Array Value} {below : List Frame} {meth : Method} {c : Code} {D : va_G} {A : Nat → Prop} {g : mG} (hg : inj g) {x1 : Int32} {x2 : Int32} {x3 : Int32} (X : cx p m meth c s args cX5_coefficient 4 RX5 D (tyG g)) (hr : meth.sig.returnType = (some .boolean)) {Q : Int32 → RS → Prop} : ∀ (σ : RS), wpX5_coefficient_0 x1 x2 x3 Q σ → cW p l e rmX5_coefficient s m args below meth c (MQ below (va_Qi Q (fun u t => wd D A (rT g u) t.heap) A) args s 0 0 A) D A (rT g σ) 0 4 [(0, .ref (g.1 5000)), (1, .int x1), (2, .int x2), (3, .int x3)] := by
  obtain ⟨hx, hb, hml, hown, hts, hK, hlk⟩ := id X
  intro σ h H locs ls hw hS hl
  unfold wpX5_coefficient_0 at h
  refine lv_aload_n hx hb dX5_coefficient_0 rfl (lv_at hl 0 rfl) ?_
  refine lv_iconst (v := (-1 : Int32)) hx hb dX5_coefficient_1 (by decide) ?_
  refine m_put (T' := rT g (wK σ 0 (-1 : Int32))) X hw hS qM rfl inA_X5 tyX5 tyX5_ok nmX5 4 (by decide) mw_81 rfl pd_I (Nat.le_of_ble_eq_true rfl) (vK hg (by decide)) dX5_coefficient_2 (fun H locs hw hS => ?_)
  refine lv_iload_n hx hb dX5_coefficient_5 rfl (lv_at hl 1 rfl) ?_
  refine m_cSi (TT := rT g) (As := [.int x1]) (rest := []) X hl.1 hw hS (kX5_isRegister hg h) mw_113 fX5_isRegister ⟨rfl, rfl, Nat.le_of_ble_eq_true rfl, Nat.le_of_ble_eq_true rfl⟩ rfl rfl (Nat.le_of_ble_eq_true rfl) dX5_coefficient_6 (fun r7 σ8 H locs h hw hS => ?_)
  refine lv_if_eq (tgt := 19) hx hb dX5_coefficient_9 (by decide) (fun hc => ?_) (fun hc => ?_)
  · replace h := h.1 hc
    exact wX5_coefficient_19 hg X hr _ h H locs ls hw hS (lv_sub hl [0, 1, 2, 3] rfl)
  · replace h := h.2 hc
    refine lv_iload_n hx hb dX5_coefficient_12 rfl (lv_at hl 2 rfl) ?_
    refine m_cSi (TT := rT g) (As := [.int x2]) (rest := []) X hl.1 hw hS (kX5_isPower hg h) mw_116 fX5_isPower ⟨rfl, rfl, Nat.le_of_ble_eq_true rfl, Nat.le_of_ble_eq_true rfl⟩ rfl rfl (Nat.le_of_ble_eq_true rfl) dX5_coefficient_13 (fun r9 σ10 H locs h hw hS => ?_)
    refine lv_if_ne (tgt := 21) hx hb dX5_coefficient_16 (by decide) (fun hc => ?_) (fun hc => ?_)
    · replace h := h.1 hc
      refine lv_aload_n hx hb dX5_coefficient_21 rfl (lv_at hl 0 rfl) ?_
      refine lv_iload_n hx hb dX5_coefficient_22 rfl (lv_at hl 1 rfl) ?_
      refine m_put (T' := rT g (wK σ10 0 x1)) X hw hS qM rfl inA_X5 tyX5 tyX5_ok nmX5 4 (by decide) mw_81 rfl pd_I (Nat.le_of_ble_eq_true rfl) (vK hg (by decide)) dX5_coefficient_23 (fun H locs hw hS => ?_)
      refine lv_aload_n hx hb dX5_coefficient_26 rfl (lv_at hl 0 rfl) ?_
      refine lv_iload_n hx hb dX5_coefficient_27 rfl (lv_at hl 2 rfl) ?_
      refine m_put (T' := rT g (wK (wK σ10 0 x1) 1 x2)) X hw hS qM rfl inA_X5 tyX5 tyX5_ok nmX5 5 (by decide) mw_110 rfl pd_I (Nat.le_of_ble_eq_true rfl) (vK hg (by decide)) dX5_coefficient_28 (fun H locs hw hS => ?_)
      refine lv_aload_n hx hb dX5_coefficient_31 rfl (lv_at hl 0 rfl) ?_
      refine lv_iload_n hx hb dX5_coefficient_32 rfl (lv_at hl 3 rfl) ?_
      refine lv_if_ge (tgt := 40) hx hb dX5_coefficient_33 (by decide) (fun hc => ?_) (fun hc => ?_)
      · replace h := h.1 hc
        refine lv_iconst (v := (1 : Int32)) hx hb dX5_coefficient_40 (by decide) ?_
        refine m_put (T' := rT g (wK (wK (wK σ10 0 x1) 1 x2) 2 (1 : Int32))) X hw hS qM rfl inA_X5 tyX5 tyX5_ok nmX5 6 (by decide) mw_111 rfl pd_I (Nat.le_of_ble_eq_true rfl) (vK hg (by decide)) dX5_coefficient_41 (fun H locs hw hS => ?_)
        exact wX5_coefficient_44 hg X hr _ h H locs ls hw hS (lv_sub hl [0, 1, 2, 3] rfl)
      · replace h := h.2 hc
        refine lv_iconst (v := (-1 : Int32)) hx hb dX5_coefficient_36 (by decide) ?_
        refine lv_goto (tgt := 41) hx hb dX5_coefficient_37 (by decide) ?_
        refine m_put (T' := rT g (wK (wK (wK σ10 0 x1) 1 x2) 2 (-1 : Int32))) X hw hS qM rfl inA_X5 tyX5 tyX5_ok nmX5 6 (by decide) mw_111 rfl pd_I (Nat.le_of_ble_eq_true rfl) (vK hg (by decide)) dX5_coefficient_41 (fun H locs hw hS => ?_)
        exact wX5_coefficient_44 hg X hr _ h H locs ls hw hS (lv_sub hl [0, 1, 2, 3] rfl)
    · replace h := h.2 hc
      exact wX5_coefficient_19 hg X hr _ h H locs ls hw hS (lv_sub hl [0, 1, 2, 3] rfl)
def wpX5_coefficient (x1 : Int32) (x2 : Int32) (x3 : Int32) (σ : RS) (Q : Int32 → RS → Prop) : Prop := wpX5_coefficient_0 x1 x2 x3 Q σ
theorem kX5_coefficient {l : Launch} {D : va_G} {A : Nat → Prop} {g : mG} (hg : inj g) {x1 : Int32} {x2 : Int32} {x3 : Int32} {σ : RS} {Q : Int32 → RS → Prop} (h : wpX5_coefficient x1 x2 x3 σ Q) : Met l yX5_coefficient (Cond.code yX5_coefficient cX5_coefficient 4 (some .boolean) :: wsA) rmX5_coefficient (mPc D (tyG g) A (rT g σ) [.ref (g.1 5000), .int x1, .int x2, .int x3]) (va_Qi Q (fun u t => wd D A (rT g u) t.heap) A) 0 0 A :=
  m_met (by decide +kernel) (Nat.le_of_ble_eq_true rfl) (fun p e s m below meth c X hr H locs ls hw hS hl => wX5_coefficient_0 hg X hr σ h H locs ls hw hS (lv_sub hl [0, 1, 2, 3] rfl))
theorem fX5_coefficient : vfit yX5_coefficient cX5_coefficient 4 (some .boolean) 3 := ⟨mw_107, mw_108, mw_5, mw_109, by decide +kernel, by decide +kernel, by decide +kernel⟩
/-! BigPolysModel.word(I)Z -/
def rmX5_word : Room := { frames := 2, cells := 0, slots := 0, locals := 59 }
def wpX5_word_140 (x1 : Int32) (Q : Int32 → RS → Prop) (σ : RS) : Prop :=
  wpX5_measure (rK σ 0) σ (fun (σ2 : RS) =>
    Q (1 : Int32) σ2)
set_option maxRecDepth 100000 in
set_option maxHeartbeats 4000000 in
theorem wX5_word_140 {p : Program} {l : Launch} {e : Env} {s : State} {m : MethodId} {args : Array Value} {below : List Frame} {meth : Method} {c : Code} {D : va_G} {A : Nat → Prop} {g : mG} (hg : inj g) {x1 : Int32} (X : cx p m meth c s args cX5_word 4 RX5 D (tyG g)) (hr : meth.sig.returnType = (some .boolean)) {Q : Int32 → RS → Prop} : ∀ (σ : RS), wpX5_word_140 x1 Q σ → cW p l e rmX5_word s m args below meth c (MQ below (va_Qi Q (fun u t => wd D A (rT g u) t.heap) A) args s 0 0 A) D A (rT g σ) 140 4 [(0, .ref (g.1 5000)), (1, .int x1)] := by
  obtain ⟨hx, hb, hml, hown, hts, hK, hlk⟩ := id X
  intro σ h H locs ls hw hS hl
  unfold wpX5_word_140 at h
  refine lv_aload_n hx hb dX5_word_140 rfl (lv_at hl 0 rfl) ?_
  refine lv_aload_n hx hb dX5_word_141 rfl (lv_at hl 0 rfl) ?_
  refine m_get (v := .int (rK σ 0)) X hw qM rfl inA_X5 4 (by decide) mw_81 rfl dX5_word_142 ?_
  refine m_cVv (TT := rT g) (As := [.int (rK σ 0)]) (rest := []) X hl.1 hw hS (kX5_measure hg h) mw_126 fX5_measure qM rfl rfl ⟨rfl, rfl, Nat.le_of_ble_eq_true rfl, Nat.le_of_ble_eq_true rfl⟩ rfl rfl (Nat.le_of_ble_eq_true rfl) dX5_word_145 (fun σ2 H locs h hw hS => ?_)
  refine lv_iconst (v := (1 : Int32)) hx hb dX5_word_148 (by decide) ?_
  exact m_zret X hr rfl hw hS h dX5_word_149
def wpX5_word_87 (x1 : Int32) (Q : Int32 → RS → Prop) (N67 : Int32 → Int32 → RS → Prop) (i2 : Int32) (i3 : Int32) (σ : RS) : Prop :=
  vp_in i3 6 ∧ (
  wpX5_put (216 : Int32) ((rH σ i3.toNatClampNeg).toInt64) σ (fun (σ4 : RS) =>
    wpX5_sum i2 i2 (216 : Int32) (1 : Int32) σ4 (fun (σ6 : RS) =>
      ∀ a7 : Int32, a7 = i3 + (-1 : Int32) →
      N67 i2 a7 σ6)))
set_option maxRecDepth 100000 in
set_option maxHeartbeats 4000000 in
theorem wX5_word_87 {p : Program} {l : Launch} {e : Env} {s : State} {m : MethodId} {args : Array Value} {below : List Frame} {meth : Method} {c : Code} {D : va_G} {A : Nat → Prop} {g : mG} (hg : inj g) {x1 : Int32} (X : cx p m meth c s args cX5_word 4 RX5 D (tyG g)) (hr : meth.sig.returnType = (some .boolean)) {Q : Int32 → RS → Prop} {N67 : Int32 → Int32 → RS → Prop} (hN67 : ∀ (i2 : Int32) (i3 : Int32) (σ : RS), N67 i2 i3 σ → cW p l e rmX5_word s m args below meth c (MQ below (va_Qi Q (fun u t => wd D A (rT g u) t.heap) A) args s 0 0 A) D A (rT g σ) 67 4 [(0, .ref (g.1 5000)), (1, .int x1), (2, .int i2), (3, .int i3)]) : ∀ (i2 : Int32) (i3 : Int32) (σ : RS), wpX5_word_87 x1 Q N67 i2 i3 σ → cW p l e rmX5_word s m args below meth c (MQ below (va_Qi Q (fun u t => wd D A (rT g u) t.heap) A) args s 0 0 A) D A (rT g σ) 87 4 [(0, .ref (g.1 5000)), (1, .int x1), (2, .int i2), (3, .int i3)] := by
  obtain ⟨hx, hb, hml, hown, hts, hK, hlk⟩ := id X
  intro i2 i3 σ h H locs ls hw hS hl
  unfold wpX5_word_87 at h
  refine lv_aload_n hx hb dX5_word_87 rfl (lv_at hl 0 rfl) ?_
  refine lv_sipush (v := (216 : Int32)) hx hb dX5_word_88 (by decide) ?_
  refine lv_aload_n hx hb dX5_word_91 rfl (lv_at hl 0 rfl) ?_
  refine m_get (v := .ref (g.1 5005)) X hw qM rfl inA_X5 8 (by decide) mw_82 rfl dX5_word_92 ?_
  refine lv_iload_n hx hb dX5_word_95 rfl (lv_at hl 3 rfl) ?_
  obtain ⟨hi, h⟩ := h
  refine m_iald X hw qH 0 rfl hi dX5_word_96 ?_
  refine lv_i2l (v := (rH σ i3.toNatClampNeg).toInt64) hx hb dX5_word_97 rfl ?_
  refine m_cVv (TT := rT g) (As := [.int (216 : Int32), .long ((rH σ i3.toNatClampNeg).toInt64)]) (rest := []) X hl.1 hw hS (kX5_put hg h) mw_151 fX5_put qM rfl rfl ⟨rfl, rfl, Nat.le_of_ble_eq_true rfl, Nat.le_of_ble_eq_true rfl⟩ rfl rfl (Nat.le_of_ble_eq_true rfl) dX5_word_98 (fun σ4 H locs h hw hS => ?_)
  refine lv_aload_n hx hb dX5_word_101 rfl (lv_at hl 0 rfl) ?_
  refine lv_iload_n hx hb dX5_word_102 rfl (lv_at hl 2 rfl) ?_
  refine lv_iload_n hx hb dX5_word_103 rfl (lv_at hl 2 rfl) ?_
  refine lv_sipush (v := (216 : Int32)) hx hb dX5_word_104 (by decide) ?_
  refine lv_iconst (v := (1 : Int32)) hx hb dX5_word_107 (by decide) ?_
  refine m_cVv (TT := rT g) (As := [.int i2, .int i2, .int (216 : Int32), .int (1 : Int32)]) (rest := []) X hl.1 hw hS (kX5_sum hg h) mw_155 fX5_sum qM rfl rfl ⟨rfl, rfl, Nat.le_of_ble_eq_true rfl, Nat.le_of_ble_eq_true rfl⟩ rfl rfl (Nat.le_of_ble_eq_true rfl) dX5_word_108 (fun σ6 H locs h hw hS => ?_)
  obtain ⟨a7, ea7⟩ : ∃ z : Int32, z = i3 + (-1 : Int32) := ⟨_, rfl⟩
  replace h := h a7 ea7
  refine lv_iinc (v := a7) (lv' := [(3, .int a7), (0, .ref (g.1 5000)), (1, .int x1), (2, .int i2)]) hx hb dX5_word_111 hl (k := 3) rfl (by rw [ea7]; rfl) (by decide) rfl (fun ls hl => ?_)
  refine lv_goto (tgt := 67) hx hb dX5_word_114 (by decide) ?_
  exact hN67 i2 a7 _ h H locs ls hw hS (lv_sub hl [1, 2, 3, 0] rfl)
def wbX5_word_67 (x1 : Int32) (Q : Int32 → RS → Prop) (N67 : Int32 → Int32 → RS → Prop) (i2 : Int32) (i3 : Int32) (σ : RS) : Prop :=
  (i3 < 0 →
    vp_in i2 227 ∧ (
    (¬ (rS σ i2.toNatClampNeg) = 0 →
      vp_in i2 227 ∧ (
      wpX5_word_140 x1 Q (wG σ i2 (rK σ 2)))) ∧
    ((rS σ i2.toNatClampNeg) = 0 →
      vp_in i2 227 ∧ (
      wpX5_word_140 x1 Q (wG σ i2 (0 : Int32)))))) ∧
  (¬ i3 < 0 →
    vp_in i2 227 ∧ (
    ((rS σ i2.toNatClampNeg) ≤ 0 →
      wpX5_word_87 x1 Q N67 i2 i3 σ) ∧
    (¬ (rS σ i2.toNatClampNeg) ≤ 0 →
      wpX5_shiftUp i2 (31 : Int32) σ (fun (σ9 : RS) =>
        wpX5_word_87 x1 Q N67 i2 i3 σ9))))
set_option maxRecDepth 100000 in
set_option maxHeartbeats 4000000 in
theorem wX5_word_67 {p : Program} {l : Launch} {e : Env} {s : State} {m : MethodId} {args : Array Value} {below : List Frame} {meth : Method} {c : Code} {D : va_G} {A : Nat → Prop} {g : mG} (hg : inj g) {x1 : Int32} (X : cx p m meth c s args cX5_word 4 RX5 D (tyG g)) (hr : meth.sig.returnType = (some .boolean)) {Q : Int32 → RS → Prop} : ∀ (n : Nat) (i2 : Int32) (i3 : Int32) (σ : RS), lq3 (wbX5_word_67 x1 Q) n i2 i3 σ → cW p l e rmX5_word s m args below meth c (MQ below (va_Qi Q (fun u t => wd D A (rT g u) t.heap) A) args s 0 0 A) D A (rT g σ) 67 4 [(0, .ref (g.1 5000)), (1, .int x1), (2, .int i2), (3, .int i3)] := by
  obtain ⟨hx, hb, hml, hown, hts, hK, hlk⟩ := id X
  intro n
  induction n with
  | zero =>
    intro i2 i3 σ h
    exact h.elim
  | succ n hN67 =>
    intro i2 i3 σ h H locs ls hw hS hl
    replace h : wbX5_word_67 x1 Q (lq3 (wbX5_word_67 x1 Q) n) i2 i3 σ := h
    unfold wbX5_word_67 at h
    refine lv_iload_n hx hb dX5_word_67 rfl (lv_at hl 3 rfl) ?_
    refine lv_if_lt (tgt := 117) hx hb dX5_word_68 (by decide) (fun hc => ?_) (fun hc => ?_)
    · replace h := h.1 hc
      refine lv_aload_n hx hb dX5_word_117 rfl (lv_at hl 0 rfl) ?_
      refine m_get (v := .ref (g.1 5003)) X hw qM rfl inA_X5 2 (by decide) mw_79 rfl dX5_word_118 ?_
      refine lv_iload_n hx hb dX5_word_121 rfl (lv_at hl 2 rfl) ?_
      refine lv_aload_n hx hb dX5_word_122 rfl (lv_at hl 0 rfl) ?_
      refine m_get (v := .ref (g.1 5002)) X hw qM rfl inA_X5 1 (by decide) mw_78 rfl dX5_word_123 ?_
      refine lv_iload_n hx hb dX5_word_126 rfl (lv_at hl 2 rfl) ?_
      obtain ⟨hi, h⟩ := h
      refine m_iald X hw qS 0 rfl hi dX5_word_127 ?_
      refine lv_if_ne (tgt := 135) hx hb dX5_word_128 (by decide) (fun hc => ?_) (fun hc => ?_)
      · replace h := h.1 hc
        refine lv_aload_n hx hb dX5_word_135 rfl (lv_at hl 0 rfl) ?_
        refine m_get (v := .int (rK σ 2)) X hw qM rfl inA_X5 6 (by decide) mw_111 rfl dX5_word_136 ?_
        obtain ⟨hi, h⟩ := h
        refine m_iast (T' := rT g (wG σ i2 (rK σ 2))) X hw hS qG 0 rfl hi (vG hg) dX5_word_139 (fun H locs hw hS => ?_)
        exact wX5_word_140 hg X hr _ h H locs ls hw hS (lv_sub hl [0, 1] rfl)
      · replace h := h.2 hc
        refine lv_iconst (v := (0 : Int32)) hx hb dX5_word_131 (by decide) ?_
        refine lv_goto (tgt := 139) hx hb dX5_word_132 (by decide) ?_
        obtain ⟨hi, h⟩ := h
        refine m_iast (T' := rT g (wG σ i2 (0 : Int32))) X hw hS qG 0 rfl hi (vG hg) dX5_word_139 (fun H locs hw hS => ?_)
        exact wX5_word_140 hg X hr _ h H locs ls hw hS (lv_sub hl [0, 1] rfl)
    · replace h := h.2 hc
      refine lv_aload_n hx hb dX5_word_71 rfl (lv_at hl 0 rfl) ?_
      refine m_get (v := .ref (g.1 5002)) X hw qM rfl inA_X5 1 (by decide) mw_78 rfl dX5_word_72 ?_
      refine lv_iload_n hx hb dX5_word_75 rfl (lv_at hl 2 rfl) ?_
      obtain ⟨hi, h⟩ := h
      refine m_iald X hw qS 0 rfl hi dX5_word_76 ?_
      refine lv_if_le (tgt := 87) hx hb dX5_word_77 (by decide) (fun hc => ?_) (fun hc => ?_)
      · replace h := h.1 hc
        exact wX5_word_87 hg X hr hN67 i2 i3 _ h H locs ls hw hS (lv_sub hl [0, 1, 2, 3] rfl)
      · replace h := h.2 hc
        refine lv_aload_n hx hb dX5_word_80 rfl (lv_at hl 0 rfl) ?_
        refine lv_iload_n hx hb dX5_word_81 rfl (lv_at hl 2 rfl) ?_
        refine lv_bipush (v := (31 : Int32)) hx hb dX5_word_82 (by decide) ?_
        refine m_cVv (TT := rT g) (As := [.int i2, .int (31 : Int32)]) (rest := []) X hl.1 hw hS (kX5_shiftUp hg h) mw_142 fX5_shiftUp qM rfl rfl ⟨rfl, rfl, Nat.le_of_ble_eq_true rfl, Nat.le_of_ble_eq_true rfl⟩ rfl rfl (Nat.le_of_ble_eq_true rfl) dX5_word_84 (fun σ9 H locs h hw hS => ?_)
        exact wX5_word_87 hg X hr hN67 i2 i3 _ h H locs ls hw hS (lv_sub hl [0, 1, 2, 3] rfl)
def wpX5_word_21 (x1 : Int32) (Q : Int32 → RS → Prop) (σ : RS) : Prop :=
  Q (0 : Int32) σ
set_option maxRecDepth 100000 in
set_option maxHeartbeats 4000000 in
theorem wX5_word_21 {p : Program} {l : Launch} {e : Env} {s : State} {m : MethodId} {args : Array Value} {below : List Frame} {meth : Method} {c : Code} {D : va_G} {A : Nat → Prop} {g : mG} (hg : inj g) {x1 : Int32} (X : cx p m meth c s args cX5_word 4 RX5 D (tyG g)) (hr : meth.sig.returnType = (some .boolean)) {Q : Int32 → RS → Prop} : ∀ (σ : RS), wpX5_word_21 x1 Q σ → cW p l e rmX5_word s m args below meth c (MQ below (va_Qi Q (fun u t => wd D A (rT g u) t.heap) A) args s 0 0 A) D A (rT g σ) 21 4 [(0, .ref (g.1 5000)), (1, .int x1)] := by
  obtain ⟨hx, hb, hml, hown, hts, hK, hlk⟩ := id X
  intro σ h H locs ls hw hS hl
  unfold wpX5_word_21 at h
  refine lv_iconst (v := (0 : Int32)) hx hb dX5_word_21 (by decide) ?_
  exact m_zret X hr rfl hw hS h dX5_word_22
def wpX5_word_0 (x1 : Int32) (Q : Int32 → RS → Prop) (σ : RS) : Prop :=
  ((rK σ 0) = (-1 : Int32) →
    wpX5_word_21 x1 Q σ) ∧
  (¬ (rK σ 0) = (-1 : Int32) →
    (x1 < 0 →
      wpX5_word_21 x1 Q σ) ∧
    (¬ x1 < 0 →
      (¬ (rK σ 3) = (6 : Int32) →
        vp_in (rK σ 3) 6 ∧ (
        wpX5_at (rK (wK (wH σ (rK σ 3) x1) 3 ((rK (wH σ (rK σ 3) x1) 3) + (1 : Int32))) 0) (rK (wK (wH σ (rK σ 3) x1) 3 ((rK (wH σ (rK σ 3) x1) 3) + (1 : Int32))) 1) (wK (wH σ (rK σ 3) x1) 3 ((rK (wH σ (rK σ 3) x1) 3) + (1 : Int32))) (fun (r10 : Int32) (σ11 : RS) =>
          wpX5_zero r10 σ11 (fun (σ13 : RS) =>
            ∀ a14 : Int32, a14 = (rK σ13 3) - (1 : Int32) →
            ∃ n, lq3 (wbX5_word_67 x1 Q) n r10 a14 σ13)))) ∧
      ((rK σ 3) = (6 : Int32) →
        wpX5_word_21 x1 Q σ)))
set_option maxRecDepth 100000 in
set_option maxHeartbeats 4000000 in
theorem wX5_word_0 {p : Program} {l : Launch} {e : Env} {s : State} {m : MethodId} {args : Array Value} {below : List Frame} {meth : Method} {c : Code} {D : va_G} {A : Nat → Prop} {g : mG} (hg : inj g) {x1 : Int32} (X : cx p m meth c s args cX5_word 4 RX5 D (tyG g)) (hr : meth.sig.returnType = (some .boolean)) {Q : Int32 → RS → Prop} : ∀ (σ : RS), wpX5_word_0 x1 Q σ → cW p l e rmX5_word s m args below meth c (MQ below (va_Qi Q (fun u t => wd D A (rT g u) t.heap) A) args s 0 0 A) D A (rT g σ) 0 4 [(0, .ref (g.1 5000)), (1, .int x1)] := by
  obtain ⟨hx, hb, hml, hown, hts, hK, hlk⟩ := id X
  intro σ h H locs ls hw hS hl
  unfold wpX5_word_0 at h
  refine lv_aload_n hx hb dX5_word_0 rfl (lv_at hl 0 rfl) ?_
  refine m_get (v := .int (rK σ 0)) X hw qM rfl inA_X5 4 (by decide) mw_81 rfl dX5_word_1 ?_
  refine lv_iconst (v := (-1 : Int32)) hx hb dX5_word_4 (by decide) ?_
  refine lv_icmp_eq (tgt := 21) hx hb dX5_word_5 (by decide) (fun hc => ?_) (fun hc => ?_)
  · replace h := h.1 hc
    exact wX5_word_21 hg X hr _ h H locs ls hw hS (lv_sub hl [0, 1] rfl)
  · replace h := h.2 hc
    refine lv_iload_n hx hb dX5_word_8 rfl (lv_at hl 1 rfl) ?_
    refine lv_if_lt (tgt := 21) hx hb dX5_word_9 (by decide) (fun hc => ?_) (fun hc => ?_)
    · replace h := h.1 hc
      exact wX5_word_21 hg X hr _ h H locs ls hw hS (lv_sub hl [0, 1] rfl)
    · replace h := h.2 hc
      refine lv_aload_n hx hb dX5_word_12 rfl (lv_at hl 0 rfl) ?_
      refine m_get (v := .int (rK σ 3)) X hw qM rfl inA_X5 7 (by decide) mw_112 rfl dX5_word_13 ?_
      refine lv_bipush (v := (6 : Int32)) hx hb dX5_word_16 (by decide) ?_
      refine lv_icmp_ne (tgt := 23) hx hb dX5_word_18 (by decide) (fun hc => ?_) (fun hc => ?_)
      · replace h := h.1 hc
        refine lv_aload_n hx hb dX5_word_23 rfl (lv_at hl 0 rfl) ?_
        refine m_get (v := .ref (g.1 5005)) X hw qM rfl inA_X5 8 (by decide) mw_82 rfl dX5_word_24 ?_
        refine lv_aload_n hx hb dX5_word_27 rfl (lv_at hl 0 rfl) ?_
        refine m_get (v := .int (rK σ 3)) X hw qM rfl inA_X5 7 (by decide) mw_112 rfl dX5_word_28 ?_
        refine lv_iload_n hx hb dX5_word_31 rfl (lv_at hl 1 rfl) ?_
        obtain ⟨hi, h⟩ := h
        refine m_iast (T' := rT g (wH σ (rK σ 3) x1)) X hw hS qH 0 rfl hi (vH hg) dX5_word_32 (fun H locs hw hS => ?_)
        refine lv_aload_n hx hb dX5_word_33 rfl (lv_at hl 0 rfl) ?_
        refine lv_dup hx hb dX5_word_34 rfl ?_
        refine m_get (v := .int (rK (wH σ (rK σ 3) x1) 3)) X hw qM rfl inA_X5 7 (by decide) mw_112 rfl dX5_word_35 ?_
        refine lv_iconst (v := (1 : Int32)) hx hb dX5_word_38 (by decide) ?_
        refine lv_iadd hx hb dX5_word_39 ?_
        refine m_put (T' := rT g (wK (wH σ (rK σ 3) x1) 3 ((rK (wH σ (rK σ 3) x1) 3) + (1 : Int32)))) X hw hS qM rfl inA_X5 tyX5 tyX5_ok nmX5 7 (by decide) mw_112 rfl pd_I (Nat.le_of_ble_eq_true rfl) (vK hg (by decide)) dX5_word_40 (fun H locs hw hS => ?_)
        refine lv_aload_n hx hb dX5_word_43 rfl (lv_at hl 0 rfl) ?_
        refine m_get (v := .int (rK (wK (wH σ (rK σ 3) x1) 3 ((rK (wH σ (rK σ 3) x1) 3) + (1 : Int32))) 0)) X hw qM rfl inA_X5 4 (by decide) mw_81 rfl dX5_word_44 ?_
        refine lv_aload_n hx hb dX5_word_47 rfl (lv_at hl 0 rfl) ?_
        refine m_get (v := .int (rK (wK (wH σ (rK σ 3) x1) 3 ((rK (wH σ (rK σ 3) x1) 3) + (1 : Int32))) 1)) X hw qM rfl inA_X5 5 (by decide) mw_110 rfl dX5_word_48 ?_
        refine m_cSi (TT := rT g) (As := [.int (rK (wK (wH σ (rK σ 3) x1) 3 ((rK (wH σ (rK σ 3) x1) 3) + (1 : Int32))) 0), .int (rK (wK (wH σ (rK σ 3) x1) 3 ((rK (wH σ (rK σ 3) x1) 3) + (1 : Int32))) 1)]) (rest := []) X hl.1 hw hS (kX5_at hg h) mw_119 fX5_at ⟨rfl, rfl, Nat.le_of_ble_eq_true rfl, Nat.le_of_ble_eq_true rfl⟩ rfl rfl (Nat.le_of_ble_eq_true rfl) dX5_word_51 (fun r10 σ11 H locs h hw hS => ?_)
        refine lv_istore_n (lv' := [(2, .int r10), (0, .ref (g.1 5000)), (1, .int x1)]) hx hb dX5_word_54 rfl hl (by decide) rfl (fun ls hl => ?_)
        refine lv_aload_n hx hb dX5_word_55 rfl (lv_at hl 1 rfl) ?_
        refine lv_iload_n hx hb dX5_word_56 rfl (lv_at hl 0 rfl) ?_
        refine m_cVv (TT := rT g) (As := [.int r10]) (rest := []) X hl.1 hw hS (kX5_zero hg h) mw_122 fX5_zero qM rfl rfl ⟨rfl, rfl, Nat.le_of_ble_eq_true rfl, Nat.le_of_ble_eq_true rfl⟩ rfl rfl (Nat.le_of_ble_eq_true rfl) dX5_word_57 (fun σ13 H locs h hw hS => ?_)
        refine lv_aload_n hx hb dX5_word_60 rfl (lv_at hl 1 rfl) ?_
        refine m_get (v := .int (rK σ13 3)) X hw qM rfl inA_X5 7 (by decide) mw_112 rfl dX5_word_61 ?_
        refine lv_iconst (v := (1 : Int32)) hx hb dX5_word_64 (by decide) ?_
        refine lv_isub hx hb dX5_word_65 ?_
        refine lv_topi (fun a14 ea14 => ?_)
        replace h := h a14 ea14
        refine lv_istore_n (lv' := [(3, .int a14), (2, .int r10), (0, .ref (g.1 5000)), (1, .int x1)]) hx hb dX5_word_66 rfl hl (by decide) rfl (fun ls hl => ?_)
        obtain ⟨n9, h⟩ := h
        exact wX5_word_67 hg X hr n9 r10 a14 _ h H locs ls hw hS (lv_sub hl [2, 3, 1, 0] rfl)
      · replace h := h.2 hc
        exact wX5_word_21 hg X hr _ h H locs ls hw hS (lv_sub hl [0, 1] rfl)
def wpX5_word (x1 : Int32) (σ : RS) (Q : Int32 → RS → Prop) : Prop := wpX5_word_0 x1 Q σ
theorem kX5_word {l : Launch} {D : va_G} {A : Nat → Prop} {g : mG} (hg : inj g) {x1 : Int32} {σ : RS} {Q : Int32 → RS → Prop} (h : wpX5_word x1 σ Q) : Met l yX5_word (Cond.code yX5_word cX5_word 4 (some .boolean) :: wsA) rmX5_word (mPc D (tyG g) A (rT g σ) [.ref (g.1 5000), .int x1]) (va_Qi Q (fun u t => wd D A (rT g u) t.heap) A) 0 0 A :=
  m_met (by decide +kernel) (Nat.le_of_ble_eq_true rfl) (fun p e s m below meth c X hr H locs ls hw hS hl => wX5_word_0 hg X hr σ h H locs ls hw hS (lv_sub hl [0, 1] rfl))
theorem fX5_word : vfit yX5_word cX5_word 4 (some .boolean) 1 := ⟨mw_139, mw_140, mw_5, mw_141, by decide +kernel, by decide +kernel, by decide +kernel⟩
/-! BigPolysModel.add(IIIZ)I -/
def rmX5_add : Room := { frames := 3, cells := 0, slots := 0, locals := 69 }
def wpX5_add_66 (x1 : Int32) (x2 : Int32) (x3 : Int32) (x4 : Int32) (Q : Int32 → RS → Prop) (N26 : Int32 → RS → Prop) (i5 : Int32) (σ : RS) : Prop :=
  ∀ a1 : Int32, a1 = i5 + (1 : Int32) →
  N26 a1 σ
set_option maxRecDepth 100000 in
set_option maxHeartbeats 4000000 in
theorem wX5_add_66 {p : Program} {l : Launch} {e : Env} {s : State} {m : MethodId} {args : Array Value} {below : List Frame} {meth : Method} {c : Code} {D : va_G} {A : Nat → Prop} {g : mG} (hg : inj g) {x1 : Int32} {x2 : Int32} {x3 : Int32} {x4 : Int32} (X : cx p m meth c s args cX5_add 6 RX5 D (tyG g)) (hr : meth.sig.returnType = (some .int)) {Q : Int32 → RS → Prop} {N26 : Int32 → RS → Prop} (hN26 : ∀ (i5 : Int32) (σ : RS), N26 i5 σ → cW p l e rmX5_add s m args below meth c (MQ below (va_Qi Q (fun u t => wd D A (rT g u) t.heap) A) args s 0 0 A) D A (rT g σ) 26 6 [(0, .ref (g.1 5000)), (1, .int x1), (2, .int x2), (3, .int x3), (4, .int x4), (5, .int i5)]) : ∀ (i5 : Int32) (σ : RS), wpX5_add_66 x1 x2 x3 x4 Q N26 i5 σ → cW p l e rmX5_add s m args below meth c (MQ below (va_Qi Q (fun u t => wd D A (rT g u) t.heap) A) args s 0 0 A) D A (rT g σ) 66 6 [(0, .ref (g.1 5000)), (1, .int x1), (2, .int x2), (3, .int x3), (4, .int x4), (5, .int i5)] := by
  obtain ⟨hx, hb, hml, hown, hts, hK, hlk⟩ := id X
  intro i5 σ h H locs ls hw hS hl
  unfold wpX5_add_66 at h
  obtain ⟨a1, ea1⟩ : ∃ z : Int32, z = i5 + (1 : Int32) := ⟨_, rfl⟩
  replace h := h a1 ea1
  refine lv_iinc (v := a1) (lv' := [(5, .int a1), (0, .ref (g.1 5000)), (1, .int x1), (2, .int x2), (3, .int x3), (4, .int x4)]) hx hb dX5_add_66 hl (k := 5) rfl (by rw [ea1]; rfl) (by decide) rfl (fun ls hl => ?_)
  refine lv_goto (tgt := 26) hx hb dX5_add_69 (by decide) ?_
  exact hN26 a1 _ h H locs ls hw hS (lv_sub hl [1, 2, 3, 4, 5, 0] rfl)
def wbX5_add_26 (x1 : Int32) (x2 : Int32) (x3 : Int32) (x4 : Int32) (Q : Int32 → RS → Prop) (N26 : Int32 → RS → Prop) (i5 : Int32) (σ : RS) : Prop :=
  ((9 : Int32) ≤ i5 →
    wpX5_measure (23 : Int32) σ (fun (σ3 : RS) =>
      wpX5_result x1 (23 : Int32) σ3 (fun (r4 : Int32) (σ5 : RS) =>
        Q r4 σ5))) ∧
  (¬ (9 : Int32) ≤ i5 →
    wpX5_at (23 : Int32) i5 σ (fun (r6 : Int32) (σ7 : RS) =>
      wpX5_at x2 i5 σ7 (fun (r8 : Int32) (σ9 : RS) =>
        wpX5_at x3 i5 σ9 (fun (r10 : Int32) (σ11 : RS) =>
          (x4 = 0 →
            wpX5_sum r6 r8 r10 (1 : Int32) σ11 (fun (σ13 : RS) =>
              wpX5_add_66 x1 x2 x3 x4 Q N26 i5 σ13)) ∧
          (¬ x4 = 0 →
            wpX5_sum r6 r8 r10 (-1 : Int32) σ11 (fun (σ15 : RS) =>
              wpX5_add_66 x1 x2 x3 x4 Q N26 i5 σ15))))))
set_option maxRecDepth 100000 in
set_option maxHeartbeats 4000000 in
theorem wX5_add_26 {p : Program} {l : Launch} {e : Env} {s : State} {m : MethodId} {args : Array Value} {below : List Frame} {meth : Method} {c : Code} {D : va_G} {A : Nat → Prop} {g : mG} (hg : inj g) {x1 : Int32} {x2 : Int32} {x3 : Int32} {x4 : Int32} (X : cx p m meth c s args cX5_add 6 RX5 D (tyG g)) (hr : meth.sig.returnType = (some .int)) {Q : Int32 → RS → Prop} : ∀ (n : Nat) (i5 : Int32) (σ : RS), lq2 (wbX5_add_26 x1 x2 x3 x4 Q) n i5 σ → cW p l e rmX5_add s m args below meth c (MQ below (va_Qi Q (fun u t => wd D A (rT g u) t.heap) A) args s 0 0 A) D A (rT g σ) 26 6 [(0, .ref (g.1 5000)), (1, .int x1), (2, .int x2), (3, .int x3), (4, .int x4), (5, .int i5)] := by
  obtain ⟨hx, hb, hml, hown, hts, hK, hlk⟩ := id X
  intro n
  induction n with
  | zero =>
    intro i5 σ h
    exact h.elim
  | succ n hN26 =>
    intro i5 σ h H locs ls hw hS hl
    replace h : wbX5_add_26 x1 x2 x3 x4 Q (lq2 (wbX5_add_26 x1 x2 x3 x4 Q) n) i5 σ := h
    unfold wbX5_add_26 at h
    refine lv_iload hx hb dX5_add_26 (lv_at hl 5 rfl) ?_
    refine lv_bipush (v := (9 : Int32)) hx hb dX5_add_28 (by decide) ?_
    refine lv_icmp_ge (tgt := 72) hx hb dX5_add_30 (by decide) (fun hc => ?_) (fun hc => ?_)
    · replace h := h.1 hc
      refine lv_aload_n hx hb dX5_add_72 rfl (lv_at hl 0 rfl) ?_
      refine lv_bipush (v := (23 : Int32)) hx hb dX5_add_73 (by decide) ?_
      refine m_cVv (TT := rT g) (As := [.int (23 : Int32)]) (rest := []) X hl.1 hw hS (kX5_measure hg h) mw_126 fX5_measure qM rfl rfl ⟨rfl, rfl, Nat.le_of_ble_eq_true rfl, Nat.le_of_ble_eq_true rfl⟩ rfl rfl (Nat.le_of_ble_eq_true rfl) dX5_add_75 (fun σ3 H locs h hw hS => ?_)
      refine lv_aload_n hx hb dX5_add_78 rfl (lv_at hl 0 rfl) ?_
      refine lv_iload_n hx hb dX5_add_79 rfl (lv_at hl 1 rfl) ?_
      refine lv_bipush (v := (23 : Int32)) hx hb dX5_add_80 (by decide) ?_
      refine m_cVi (TT := rT g) (As := [.int x1, .int (23 : Int32)]) (rest := []) X hl.1 hw hS (kX5_result hg h) mw_231 fX5_result qM rfl rfl ⟨rfl, rfl, Nat.le_of_ble_eq_true rfl, Nat.le_of_ble_eq_true rfl⟩ rfl rfl (Nat.le_of_ble_eq_true rfl) dX5_add_82 (fun r4 σ5 H locs h hw hS => ?_)
      exact m_iret X hr hw hS h dX5_add_85
    · replace h := h.2 hc
      refine lv_aload_n hx hb dX5_add_33 rfl (lv_at hl 0 rfl) ?_
      refine lv_bipush (v := (23 : Int32)) hx hb dX5_add_34 (by decide) ?_
      refine lv_iload hx hb dX5_add_36 (lv_at hl 5 rfl) ?_
      refine m_cSi (TT := rT g) (As := [.int (23 : Int32), .int i5]) (rest := [.ref (g.1 5000)]) X hl.1 hw hS (kX5_at hg h) mw_119 fX5_at ⟨rfl, rfl, Nat.le_of_ble_eq_true rfl, Nat.le_of_ble_eq_true rfl⟩ rfl rfl (Nat.le_of_ble_eq_true rfl) dX5_add_38 (fun r6 σ7 H locs h hw hS => ?_)
      refine lv_iload_n hx hb dX5_add_41 rfl (lv_at hl 2 rfl) ?_
      refine lv_iload hx hb dX5_add_42 (lv_at hl 5 rfl) ?_
      refine m_cSi (TT := rT g) (As := [.int x2, .int i5]) (rest := [.int r6, .ref (g.1 5000)]) X hl.1 hw hS (kX5_at hg h) mw_119 fX5_at ⟨rfl, rfl, Nat.le_of_ble_eq_true rfl, Nat.le_of_ble_eq_true rfl⟩ rfl rfl (Nat.le_of_ble_eq_true rfl) dX5_add_44 (fun r8 σ9 H locs h hw hS => ?_)
      refine lv_iload_n hx hb dX5_add_47 rfl (lv_at hl 3 rfl) ?_
      refine lv_iload hx hb dX5_add_48 (lv_at hl 5 rfl) ?_
      refine m_cSi (TT := rT g) (As := [.int x3, .int i5]) (rest := [.int r8, .int r6, .ref (g.1 5000)]) X hl.1 hw hS (kX5_at hg h) mw_119 fX5_at ⟨rfl, rfl, Nat.le_of_ble_eq_true rfl, Nat.le_of_ble_eq_true rfl⟩ rfl rfl (Nat.le_of_ble_eq_true rfl) dX5_add_50 (fun r10 σ11 H locs h hw hS => ?_)
      refine lv_iload hx hb dX5_add_53 (lv_at hl 4 rfl) ?_
      refine lv_if_eq (tgt := 62) hx hb dX5_add_55 (by decide) (fun hc => ?_) (fun hc => ?_)
      · replace h := h.1 hc
        refine lv_iconst (v := (1 : Int32)) hx hb dX5_add_62 (by decide) ?_
        refine m_cVv (TT := rT g) (As := [.int r6, .int r8, .int r10, .int (1 : Int32)]) (rest := []) X hl.1 hw hS (kX5_sum hg h) mw_155 fX5_sum qM rfl rfl ⟨rfl, rfl, Nat.le_of_ble_eq_true rfl, Nat.le_of_ble_eq_true rfl⟩ rfl rfl (Nat.le_of_ble_eq_true rfl) dX5_add_63 (fun σ13 H locs h hw hS => ?_)
        exact wX5_add_66 hg X hr hN26 i5 _ h H locs ls hw hS (lv_sub hl [0, 1, 2, 3, 4, 5] rfl)
      · replace h := h.2 hc
        refine lv_iconst (v := (-1 : Int32)) hx hb dX5_add_58 (by decide) ?_
        refine lv_goto (tgt := 63) hx hb dX5_add_59 (by decide) ?_
        refine m_cVv (TT := rT g) (As := [.int r6, .int r8, .int r10, .int (-1 : Int32)]) (rest := []) X hl.1 hw hS (kX5_sum hg h) mw_155 fX5_sum qM rfl rfl ⟨rfl, rfl, Nat.le_of_ble_eq_true rfl, Nat.le_of_ble_eq_true rfl⟩ rfl rfl (Nat.le_of_ble_eq_true rfl) dX5_add_63 (fun σ15 H locs h hw hS => ?_)
        exact wX5_add_66 hg X hr hN26 i5 _ h H locs ls hw hS (lv_sub hl [0, 1, 2, 3, 4, 5] rfl)
def wpX5_add_21 (x1 : Int32) (x2 : Int32) (x3 : Int32) (x4 : Int32) (Q : Int32 → RS → Prop) (σ : RS) : Prop :=
  Q (1 : Int32) σ
set_option maxRecDepth 100000 in
set_option maxHeartbeats 4000000 in
theorem wX5_add_21 {p : Program} {l : Launch} {e : Env} {s : State} {m : MethodId} {args : Array Value} {below : List Frame} {meth : Method} {c : Code} {D : va_G} {A : Nat → Prop} {g : mG} (hg : inj g) {x1 : Int32} {x2 : Int32} {x3 : Int32} {x4 : Int32} (X : cx p m meth c s args cX5_add 6 RX5 D (tyG g)) (hr : meth.sig.returnType = (some .int)) {Q : Int32 → RS → Prop} : ∀ (σ : RS), wpX5_add_21 x1 x2 x3 x4 Q σ → cW p l e rmX5_add s m args below meth c (MQ below (va_Qi Q (fun u t => wd D A (rT g u) t.heap) A) args s 0 0 A) D A (rT g σ) 21 6 [(0, .ref (g.1 5000)), (1, .int x1), (2, .int x2), (3, .int x3), (4, .int x4)] := by
  obtain ⟨hx, hb, hml, hown, hts, hK, hlk⟩ := id X
  intro σ h H locs ls hw hS hl
  unfold wpX5_add_21 at h
  refine lv_iconst (v := (1 : Int32)) hx hb dX5_add_21 (by decide) ?_
  exact m_iret X hr hw hS h dX5_add_22
def wpX5_add_0 (x1 : Int32) (x2 : Int32) (x3 : Int32) (x4 : Int32) (Q : Int32 → RS → Prop) (σ : RS) : Prop :=
  wpX5_isRegister x1 σ (fun (r16 : Int32) (σ17 : RS) =>
    (r16 = 0 →
      wpX5_add_21 x1 x2 x3 x4 Q σ17) ∧
    (¬ r16 = 0 →
      wpX5_isRegister x2 σ17 (fun (r18 : Int32) (σ19 : RS) =>
        (r18 = 0 →
          wpX5_add_21 x1 x2 x3 x4 Q σ19) ∧
        (¬ r18 = 0 →
          wpX5_isRegister x3 σ19 (fun (r20 : Int32) (σ21 : RS) =>
            (¬ r20 = 0 →
              ∃ n, lq2 (wbX5_add_26 x1 x2 x3 x4 Q) n (0 : Int32) σ21) ∧
            (r20 = 0 →
              wpX5_add_21 x1 x2 x3 x4 Q σ21))))))
set_option maxRecDepth 100000 in
set_option maxHeartbeats 4000000 in
theorem wX5_add_0 {p : Program} {l : Launch} {e : Env} {s : State} {m : MethodId} {args : Array Value} {below : List Frame} {meth : Method} {c : Code} {D : va_G} {A : Nat → Prop} {g : mG} (hg : inj g) {x1 : Int32} {x2 : Int32} {x3 : Int32} {x4 : Int32} (X : cx p m meth c s args cX5_add 6 RX5 D (tyG g)) (hr : meth.sig.returnType = (some .int)) {Q : Int32 → RS → Prop} : ∀ (σ : RS), wpX5_add_0 x1 x2 x3 x4 Q σ → cW p l e rmX5_add s m args below meth c (MQ below (va_Qi Q (fun u t => wd D A (rT g u) t.heap) A) args s 0 0 A) D A (rT g σ) 0 6 [(0, .ref (g.1 5000)), (1, .int x1), (2, .int x2), (3, .int x3), (4, .int x4)] := by
  obtain ⟨hx, hb, hml, hown, hts, hK, hlk⟩ := id X
  intro σ h H locs ls hw hS hl
  unfold wpX5_add_0 at h
  refine lv_iload_n hx hb dX5_add_0 rfl (lv_at hl 1 rfl) ?_
  refine m_cSi (TT := rT g) (As := [.int x1]) (rest := []) X hl.1 hw hS (kX5_isRegister hg h) mw_113 fX5_isRegister ⟨rfl, rfl, Nat.le_of_ble_eq_true rfl, Nat.le_of_ble_eq_true rfl⟩ rfl rfl (Nat.le_of_ble_eq_true rfl) dX5_add_1 (fun r16 σ17 H locs h hw hS => ?_)
  refine lv_if_eq (tgt := 21) hx hb dX5_add_4 (by decide) (fun hc => ?_) (fun hc => ?_)
  · replace h := h.1 hc
    exact wX5_add_21 hg X hr _ h H locs ls hw hS (lv_sub hl [0, 1, 2, 3, 4] rfl)
  · replace h := h.2 hc
    refine lv_iload_n hx hb dX5_add_7 rfl (lv_at hl 2 rfl) ?_
    refine m_cSi (TT := rT g) (As := [.int x2]) (rest := []) X hl.1 hw hS (kX5_isRegister hg h) mw_113 fX5_isRegister ⟨rfl, rfl, Nat.le_of_ble_eq_true rfl, Nat.le_of_ble_eq_true rfl⟩ rfl rfl (Nat.le_of_ble_eq_true rfl) dX5_add_8 (fun r18 σ19 H locs h hw hS => ?_)
    refine lv_if_eq (tgt := 21) hx hb dX5_add_11 (by decide) (fun hc => ?_) (fun hc => ?_)
    · replace h := h.1 hc
      exact wX5_add_21 hg X hr _ h H locs ls hw hS (lv_sub hl [0, 1, 2, 3, 4] rfl)
    · replace h := h.2 hc
      refine lv_iload_n hx hb dX5_add_14 rfl (lv_at hl 3 rfl) ?_
      refine m_cSi (TT := rT g) (As := [.int x3]) (rest := []) X hl.1 hw hS (kX5_isRegister hg h) mw_113 fX5_isRegister ⟨rfl, rfl, Nat.le_of_ble_eq_true rfl, Nat.le_of_ble_eq_true rfl⟩ rfl rfl (Nat.le_of_ble_eq_true rfl) dX5_add_15 (fun r20 σ21 H locs h hw hS => ?_)
      refine lv_if_ne (tgt := 23) hx hb dX5_add_18 (by decide) (fun hc => ?_) (fun hc => ?_)
      · replace h := h.1 hc
        refine lv_iconst (v := (0 : Int32)) hx hb dX5_add_23 (by decide) ?_
        refine lv_istore (lv' := [(5, .int (0 : Int32)), (0, .ref (g.1 5000)), (1, .int x1), (2, .int x2), (3, .int x3), (4, .int x4)]) hx hb dX5_add_24 hl (by decide) rfl (fun ls hl => ?_)
        obtain ⟨n9, h⟩ := h
        exact wX5_add_26 hg X hr n9 (0 : Int32) _ h H locs ls hw hS (lv_sub hl [1, 2, 3, 4, 5, 0] rfl)
      · replace h := h.2 hc
        exact wX5_add_21 hg X hr _ h H locs ls hw hS (lv_sub hl [0, 1, 2, 3, 4] rfl)
def wpX5_add (x1 : Int32) (x2 : Int32) (x3 : Int32) (x4 : Int32) (σ : RS) (Q : Int32 → RS → Prop) : Prop := wpX5_add_0 x1 x2 x3 x4 Q σ
theorem kX5_add {l : Launch} {D : va_G} {A : Nat → Prop} {g : mG} (hg : inj g) {x1 : Int32} {x2 : Int32} {x3 : Int32} {x4 : Int32} {σ : RS} {Q : Int32 → RS → Prop} (h : wpX5_add x1 x2 x3 x4 σ Q) : Met l yX5_add (Cond.code yX5_add cX5_add 6 (some .int) :: wsA) rmX5_add (mPc D (tyG g) A (rT g σ) [.ref (g.1 5000), .int x1, .int x2, .int x3, .int x4]) (va_Qi Q (fun u t => wd D A (rT g u) t.heap) A) 0 0 A :=
  m_met (by decide +kernel) (Nat.le_of_ble_eq_true rfl) (fun p e s m below meth c X hr H locs ls hw hS hl => wX5_add_0 hg X hr σ h H locs ls hw hS (lv_sub hl [0, 1, 2, 3, 4] rfl))
theorem fX5_add : vfit yX5_add cX5_add 6 (some .int) 4 := ⟨mw_228, mw_229, mw_5, mw_230, by decide +kernel, by decide +kernel, by decide +kernel⟩
/-! BigPolysModel.multiply(III)I -/
def rmX5_multiply : Room := { frames := 3, cells := 0, slots := 0, locals := 69 }
def wbX5_multiply_84 (x1 : Int32) (x2 : Int32) (x3 : Int32) (Q : Int32 → RS → Prop) (N70 : Int32 → RS → Prop) (N84 : Int32 → Int32 → RS → Prop) (i4 : Int32) (i5 : Int32) (σ : RS) : Prop :=
  vp_in x3 24 ∧ (
  ((rD σ x3.toNatClampNeg) < i5 →
    ∀ a1 : Int32, a1 = i4 + (1 : Int32) →
    N70 a1 σ) ∧
  (¬ (rD σ x3.toNatClampNeg) < i5 →
    wpX5_at x2 i4 σ (fun (r2 : Int32) (σ3 : RS) =>
      wpX5_at x3 i5 σ3 (fun (r4 : Int32) (σ5 : RS) =>
        wpX5_times (219 : Int32) r2 r4 σ5 (fun (σ7 : RS) =>
          wpX5_at (23 : Int32) (i4 + i5) σ7 (fun (r8 : Int32) (σ9 : RS) =>
            wpX5_at (23 : Int32) (i4 + i5) σ9 (fun (r10 : Int32) (σ11 : RS) =>
              wpX5_sum r8 r10 (219 : Int32) (1 : Int32) σ11 (fun (σ13 : RS) =>
                ∀ a14 : Int32, a14 = i5 + (1 : Int32) →
                N84 i4 a14 σ13))))))))
set_option maxRecDepth 100000 in
set_option maxHeartbeats 4000000 in
theorem wX5_multiply_84 {p : Program} {l : Launch} {e : Env} {s : State} {m : MethodId} {args : Array Value} {below : List Frame} {meth : Method} {c : Code} {D : va_G} {A : Nat → Prop} {g : mG} (hg : inj g) {x1 : Int32} {x2 : Int32} {x3 : Int32} (X : cx p m meth c s args cX5_multiply 6 RX5 D (tyG g)) (hr : meth.sig.returnType = (some .int)) {Q : Int32 → RS → Prop} {N70 : Int32 → RS → Prop} (hN70 : ∀ (i4 : Int32) (σ : RS), N70 i4 σ → cW p l e rmX5_multiply s m args below meth c (MQ below (va_Qi Q (fun u t => wd D A (rT g u) t.heap) A) args s 0 0 A) D A (rT g σ) 70 6 [(0, .ref (g.1 5000)), (1, .int x1), (2, .int x2), (3, .int x3), (4, .int i4)]) : ∀ (n : Nat) (i4 : Int32) (i5 : Int32) (σ : RS), lq3 (wbX5_multiply_84 x1 x2 x3 Q N70) n i4 i5 σ → cW p l e rmX5_multiply s m args below meth c (MQ below (va_Qi Q (fun u t => wd D A (rT g u) t.heap) A) args s 0 0 A) D A (rT g σ) 84 6 [(0, .ref (g.1 5000)), (1, .int x1), (2, .int x2), (3, .int x3), (4, .int i4), (5, .int i5)] := by
  obtain ⟨hx, hb, hml, hown, hts, hK, hlk⟩ := id X
  intro n
  induction n with
  | zero =>
    intro i4 i5 σ h
    exact h.elim
  | succ n hN84 =>
    intro i4 i5 σ h H locs ls hw hS hl
    replace h : wbX5_multiply_84 x1 x2 x3 Q N70 (lq3 (wbX5_multiply_84 x1 x2 x3 Q N70) n) i4 i5 σ := h
    unfold wbX5_multiply_84 at h
    refine lv_iload hx hb dX5_multiply_84 (lv_at hl 5 rfl) ?_
    refine lv_aload_n hx hb dX5_multiply_86 rfl (lv_at hl 0 rfl) ?_
    refine m_get (v := .ref (g.1 5004)) X hw qM rfl inA_X5 3 (by decide) mw_80 rfl dX5_multiply_87 ?_
    refine lv_iload_n hx hb dX5_multiply_90 rfl (lv_at hl 3 rfl) ?_
    obtain ⟨hi, h⟩ := h
    refine m_iald X hw qD 0 rfl hi dX5_multiply_91 ?_
    refine lv_icmp_gt (tgt := 148) hx hb dX5_multiply_92 (by decide) (fun hc => ?_) (fun hc => ?_)
    · replace h := h.1 hc
      obtain ⟨a1, ea1⟩ : ∃ z : Int32, z = i4 + (1 : Int32) := ⟨_, rfl⟩
      replace h := h a1 ea1
      refine lv_iinc (v := a1) (lv' := [(4, .int a1), (0, .ref (g.1 5000)), (1, .int x1), (2, .int x2), (3, .int x3), (5, .int i5)]) hx hb dX5_multiply_148 hl (k := 4) rfl (by rw [ea1]; rfl) (by decide) rfl (fun ls hl => ?_)
      refine lv_goto (tgt := 70) hx hb dX5_multiply_151 (by decide) ?_
      exact hN70 a1 _ h H locs ls hw hS (lv_sub hl [1, 2, 3, 4, 0] rfl)
    · replace h := h.2 hc
      refine lv_aload_n hx hb dX5_multiply_95 rfl (lv_at hl 0 rfl) ?_
      refine lv_sipush (v := (219 : Int32)) hx hb dX5_multiply_96 (by decide) ?_
      refine lv_iload_n hx hb dX5_multiply_99 rfl (lv_at hl 2 rfl) ?_
      refine lv_iload hx hb dX5_multiply_100 (lv_at hl 4 rfl) ?_
      refine m_cSi (TT := rT g) (As := [.int x2, .int i4]) (rest := [.int (219 : Int32), .ref (g.1 5000)]) X hl.1 hw hS (kX5_at hg h) mw_119 fX5_at ⟨rfl, rfl, Nat.le_of_ble_eq_true rfl, Nat.le_of_ble_eq_true rfl⟩ rfl rfl (Nat.le_of_ble_eq_true rfl) dX5_multiply_102 (fun r2 σ3 H locs h hw hS => ?_)
      refine lv_iload_n hx hb dX5_multiply_105 rfl (lv_at hl 3 rfl) ?_
      refine lv_iload hx hb dX5_multiply_106 (lv_at hl 5 rfl) ?_
      refine m_cSi (TT := rT g) (As := [.int x3, .int i5]) (rest := [.int r2, .int (219 : Int32), .ref (g.1 5000)]) X hl.1 hw hS (kX5_at hg h) mw_119 fX5_at ⟨rfl, rfl, Nat.le_of_ble_eq_true rfl, Nat.le_of_ble_eq_true rfl⟩ rfl rfl (Nat.le_of_ble_eq_true rfl) dX5_multiply_108 (fun r4 σ5 H locs h hw hS => ?_)
      refine m_cVv (TT := rT g) (As := [.int (219 : Int32), .int r2, .int r4]) (rest := []) X hl.1 hw hS (kX5_times hg h) mw_275 fX5_times qM rfl rfl ⟨rfl, rfl, Nat.le_of_ble_eq_true rfl, Nat.le_of_ble_eq_true rfl⟩ rfl rfl (Nat.le_of_ble_eq_true rfl) dX5_multiply_111 (fun σ7 H locs h hw hS => ?_)
      refine lv_aload_n hx hb dX5_multiply_114 rfl (lv_at hl 0 rfl) ?_
      refine lv_bipush (v := (23 : Int32)) hx hb dX5_multiply_115 (by decide) ?_
      refine lv_iload hx hb dX5_multiply_117 (lv_at hl 4 rfl) ?_
      refine lv_iload hx hb dX5_multiply_119 (lv_at hl 5 rfl) ?_
      refine lv_iadd hx hb dX5_multiply_121 ?_
      refine m_cSi (TT := rT g) (As := [.int (23 : Int32), .int (i4 + i5)]) (rest := [.ref (g.1 5000)]) X hl.1 hw hS (kX5_at hg h) mw_119 fX5_at ⟨rfl, rfl, Nat.le_of_ble_eq_true rfl, Nat.le_of_ble_eq_true rfl⟩ rfl rfl (Nat.le_of_ble_eq_true rfl) dX5_multiply_122 (fun r8 σ9 H locs h hw hS => ?_)
      refine lv_bipush (v := (23 : Int32)) hx hb dX5_multiply_125 (by decide) ?_
      refine lv_iload hx hb dX5_multiply_127 (lv_at hl 4 rfl) ?_
      refine lv_iload hx hb dX5_multiply_129 (lv_at hl 5 rfl) ?_
      refine lv_iadd hx hb dX5_multiply_131 ?_
      refine m_cSi (TT := rT g) (As := [.int (23 : Int32), .int (i4 + i5)]) (rest := [.int r8, .ref (g.1 5000)]) X hl.1 hw hS (kX5_at hg h) mw_119 fX5_at ⟨rfl, rfl, Nat.le_of_ble_eq_true rfl, Nat.le_of_ble_eq_true rfl⟩ rfl rfl (Nat.le_of_ble_eq_true rfl) dX5_multiply_132 (fun r10 σ11 H locs h hw hS => ?_)
      refine lv_sipush (v := (219 : Int32)) hx hb dX5_multiply_135 (by decide) ?_
      refine lv_iconst (v := (1 : Int32)) hx hb dX5_multiply_138 (by decide) ?_
      refine m_cVv (TT := rT g) (As := [.int r8, .int r10, .int (219 : Int32), .int (1 : Int32)]) (rest := []) X hl.1 hw hS (kX5_sum hg h) mw_155 fX5_sum qM rfl rfl ⟨rfl, rfl, Nat.le_of_ble_eq_true rfl, Nat.le_of_ble_eq_true rfl⟩ rfl rfl (Nat.le_of_ble_eq_true rfl) dX5_multiply_139 (fun σ13 H locs h hw hS => ?_)
      obtain ⟨a14, ea14⟩ : ∃ z : Int32, z = i5 + (1 : Int32) := ⟨_, rfl⟩
      replace h := h a14 ea14
      refine lv_iinc (v := a14) (lv' := [(5, .int a14), (0, .ref (g.1 5000)), (1, .int x1), (2, .int x2), (3, .int x3), (4, .int i4)]) hx hb dX5_multiply_142 hl (k := 5) rfl (by rw [ea14]; rfl) (by decide) rfl (fun ls hl => ?_)
      refine lv_goto (tgt := 84) hx hb dX5_multiply_145 (by decide) ?_
      exact hN84 i4 a14 _ h H locs ls hw hS (lv_sub hl [1, 2, 3, 4, 5, 0] rfl)
def wbX5_multiply_70 (x1 : Int32) (x2 : Int32) (x3 : Int32) (Q : Int32 → RS → Prop) (N70 : Int32 → RS → Prop) (i4 : Int32) (σ : RS) : Prop :=
  vp_in x2 24 ∧ (
  ((rD σ x2.toNatClampNeg) < i4 →
    wpX5_measure (23 : Int32) σ (fun (σ16 : RS) =>
      wpX5_result x1 (23 : Int32) σ16 (fun (r17 : Int32) (σ18 : RS) =>
        Q r17 σ18))) ∧
  (¬ (rD σ x2.toNatClampNeg) < i4 →
    ∃ n, lq3 (wbX5_multiply_84 x1 x2 x3 Q N70) n i4 (0 : Int32) σ))
set_option maxRecDepth 100000 in
set_option maxHeartbeats 4000000 in
theorem wX5_multiply_70 {p : Program} {l : Launch} {e : Env} {s : State} {m : MethodId} {args : Array Value} {below : List Frame} {meth : Method} {c : Code} {D : va_G} {A : Nat → Prop} {g : mG} (hg : inj g) {x1 : Int32} {x2 : Int32} {x3 : Int32} (X : cx p m meth c s args cX5_multiply 6 RX5 D (tyG g)) (hr : meth.sig.returnType = (some .int)) {Q : Int32 → RS → Prop} : ∀ (n : Nat) (i4 : Int32) (σ : RS), lq2 (wbX5_multiply_70 x1 x2 x3 Q) n i4 σ → cW p l e rmX5_multiply s m args below meth c (MQ below (va_Qi Q (fun u t => wd D A (rT g u) t.heap) A) args s 0 0 A) D A (rT g σ) 70 6 [(0, .ref (g.1 5000)), (1, .int x1), (2, .int x2), (3, .int x3), (4, .int i4)] := by
  obtain ⟨hx, hb, hml, hown, hts, hK, hlk⟩ := id X
  intro n
  induction n with
  | zero =>
    intro i4 σ h
    exact h.elim
  | succ n hN70 =>
    intro i4 σ h H locs ls hw hS hl
    replace h : wbX5_multiply_70 x1 x2 x3 Q (lq2 (wbX5_multiply_70 x1 x2 x3 Q) n) i4 σ := h
    unfold wbX5_multiply_70 at h
    refine lv_iload hx hb dX5_multiply_70 (lv_at hl 4 rfl) ?_
    refine lv_aload_n hx hb dX5_multiply_72 rfl (lv_at hl 0 rfl) ?_
    refine m_get (v := .ref (g.1 5004)) X hw qM rfl inA_X5 3 (by decide) mw_80 rfl dX5_multiply_73 ?_
    refine lv_iload_n hx hb dX5_multiply_76 rfl (lv_at hl 2 rfl) ?_
    obtain ⟨hi, h⟩ := h
    refine m_iald X hw qD 0 rfl hi dX5_multiply_77 ?_
    refine lv_icmp_gt (tgt := 154) hx hb dX5_multiply_78 (by decide) (fun hc => ?_) (fun hc => ?_)
    · replace h := h.1 hc
      refine lv_aload_n hx hb dX5_multiply_154 rfl (lv_at hl 0 rfl) ?_
      refine lv_bipush (v := (23 : Int32)) hx hb dX5_multiply_155 (by decide) ?_
      refine m_cVv (TT := rT g) (As := [.int (23 : Int32)]) (rest := []) X hl.1 hw hS (kX5_measure hg h) mw_126 fX5_measure qM rfl rfl ⟨rfl, rfl, Nat.le_of_ble_eq_true rfl, Nat.le_of_ble_eq_true rfl⟩ rfl rfl (Nat.le_of_ble_eq_true rfl) dX5_multiply_157 (fun σ16 H locs h hw hS => ?_)
      refine lv_aload_n hx hb dX5_multiply_160 rfl (lv_at hl 0 rfl) ?_
      refine lv_iload_n hx hb dX5_multiply_161 rfl (lv_at hl 1 rfl) ?_
      refine lv_bipush (v := (23 : Int32)) hx hb dX5_multiply_162 (by decide) ?_
      refine m_cVi (TT := rT g) (As := [.int x1, .int (23 : Int32)]) (rest := []) X hl.1 hw hS (kX5_result hg h) mw_231 fX5_result qM rfl rfl ⟨rfl, rfl, Nat.le_of_ble_eq_true rfl, Nat.le_of_ble_eq_true rfl⟩ rfl rfl (Nat.le_of_ble_eq_true rfl) dX5_multiply_164 (fun r17 σ18 H locs h hw hS => ?_)
      exact m_iret X hr hw hS h dX5_multiply_167
    · replace h := h.2 hc
      refine lv_iconst (v := (0 : Int32)) hx hb dX5_multiply_81 (by decide) ?_
      refine lv_istore (lv' := [(5, .int (0 : Int32)), (0, .ref (g.1 5000)), (1, .int x1), (2, .int x2), (3, .int x3), (4, .int i4)]) hx hb dX5_multiply_82 hl (by decide) rfl (fun ls hl => ?_)
      obtain ⟨n9, h⟩ := h
      exact wX5_multiply_84 hg X hr hN70 n9 i4 (0 : Int32) _ h H locs ls hw hS (lv_sub hl [1, 2, 3, 4, 5, 0] rfl)
def wpX5_multiply_67 (x1 : Int32) (x2 : Int32) (x3 : Int32) (Q : Int32 → RS → Prop) (σ : RS) : Prop :=
  ∃ n, lq2 (wbX5_multiply_70 x1 x2 x3 Q) n (0 : Int32) σ
set_option maxRecDepth 100000 in
set_option maxHeartbeats 4000000 in
theorem wX5_multiply_67 {p : Program} {l : Launch} {e : Env} {s : State} {m : MethodId} {args : Array Value} {below : List Frame} {meth : Method} {c : Code} {D : va_G} {A : Nat → Prop} {g : mG} (hg : inj g) {x1 : Int32} {x2 : Int32} {x3 : Int32} (X : cx p m meth c s args cX5_multiply 6 RX5 D (tyG g)) (hr : meth.sig.returnType = (some .int)) {Q : Int32 → RS → Prop} : ∀ (σ : RS), wpX5_multiply_67 x1 x2 x3 Q σ → cW p l e rmX5_multiply s m args below meth c (MQ below (va_Qi Q (fun u t => wd D A (rT g u) t.heap) A) args s 0 0 A) D A (rT g σ) 67 6 [(0, .ref (g.1 5000)), (1, .int x1), (2, .int x2), (3, .int x3)] := by
  obtain ⟨hx, hb, hml, hown, hts, hK, hlk⟩ := id X
  intro σ h H locs ls hw hS hl
  unfold wpX5_multiply_67 at h
  refine lv_iconst (v := (0 : Int32)) hx hb dX5_multiply_67 (by decide) ?_
  refine lv_istore (lv' := [(4, .int (0 : Int32)), (0, .ref (g.1 5000)), (1, .int x1), (2, .int x2), (3, .int x3)]) hx hb dX5_multiply_68 hl (by decide) rfl (fun ls hl => ?_)
  obtain ⟨n9, h⟩ := h
  exact wX5_multiply_70 hg X hr n9 (0 : Int32) _ h H locs ls hw hS (lv_sub hl [1, 2, 3, 4, 0] rfl)
def wpX5_multiply_21 (x1 : Int32) (x2 : Int32) (x3 : Int32) (Q : Int32 → RS → Prop) (σ : RS) : Prop :=
  Q (1 : Int32) σ
set_option maxRecDepth 100000 in
set_option maxHeartbeats 4000000 in
theorem wX5_multiply_21 {p : Program} {l : Launch} {e : Env} {s : State} {m : MethodId} {args : Array Value} {below : List Frame} {meth : Method} {c : Code} {D : va_G} {A : Nat → Prop} {g : mG} (hg : inj g) {x1 : Int32} {x2 : Int32} {x3 : Int32} (X : cx p m meth c s args cX5_multiply 6 RX5 D (tyG g)) (hr : meth.sig.returnType = (some .int)) {Q : Int32 → RS → Prop} : ∀ (σ : RS), wpX5_multiply_21 x1 x2 x3 Q σ → cW p l e rmX5_multiply s m args below meth c (MQ below (va_Qi Q (fun u t => wd D A (rT g u) t.heap) A) args s 0 0 A) D A (rT g σ) 21 6 [(0, .ref (g.1 5000)), (1, .int x1), (2, .int x2), (3, .int x3)] := by
  obtain ⟨hx, hb, hml, hown, hts, hK, hlk⟩ := id X
  intro σ h H locs ls hw hS hl
  unfold wpX5_multiply_21 at h
  refine lv_iconst (v := (1 : Int32)) hx hb dX5_multiply_21 (by decide) ?_
  exact m_iret X hr hw hS h dX5_multiply_22
def wpX5_multiply_0 (x1 : Int32) (x2 : Int32) (x3 : Int32) (Q : Int32 → RS → Prop) (σ : RS) : Prop :=
  wpX5_isRegister x1 σ (fun (r19 : Int32) (σ20 : RS) =>
    (r19 = 0 →
      wpX5_multiply_21 x1 x2 x3 Q σ20) ∧
    (¬ r19 = 0 →
      wpX5_isRegister x2 σ20 (fun (r21 : Int32) (σ22 : RS) =>
        (r21 = 0 →
          wpX5_multiply_21 x1 x2 x3 Q σ22) ∧
        (¬ r21 = 0 →
          wpX5_isRegister x3 σ22 (fun (r23 : Int32) (σ24 : RS) =>
            (¬ r23 = 0 →
              wpX5_clear (23 : Int32) σ24 (fun (σ26 : RS) =>
                vp_in x2 24 ∧ (
                ((rD σ26 x2.toNatClampNeg) < 0 →
                  wpX5_multiply_67 x1 x2 x3 Q σ26) ∧
                (¬ (rD σ26 x2.toNatClampNeg) < 0 →
                  vp_in x3 24 ∧ (
                  ((rD σ26 x3.toNatClampNeg) < 0 →
                    wpX5_multiply_67 x1 x2 x3 Q σ26) ∧
                  (¬ (rD σ26 x3.toNatClampNeg) < 0 →
                    vp_in x2 24 ∧ (
                    vp_in x3 24 ∧ (
                    (((rD σ26 x2.toNatClampNeg) + (rD σ26 x3.toNatClampNeg)) ≤ (8 : Int32) →
                      wpX5_multiply_67 x1 x2 x3 Q σ26) ∧
                    (¬ ((rD σ26 x2.toNatClampNeg) + (rD σ26 x3.toNatClampNeg)) ≤ (8 : Int32) →
                      Q (3 : Int32) σ26))))))))) ∧
            (r23 = 0 →
              wpX5_multiply_21 x1 x2 x3 Q σ24))))))
set_option maxRecDepth 100000 in
set_option maxHeartbeats 4000000 in
theorem wX5_multiply_0 {p : Program} {l : Launch} {e : Env} {s : State} {m : MethodId} {args : Array Value} {below : List Frame} {meth : Method} {c : Code} {D : va_G} {A : Nat → Prop} {g : mG} (hg : inj g) {x1 : Int32} {x2 : Int32} {x3 : Int32} (X : cx p m meth c s args cX5_multiply 6 RX5 D (tyG g)) (hr : meth.sig.returnType = (some .int)) {Q : Int32 → RS → Prop} : ∀ (σ : RS), wpX5_multiply_0 x1 x2 x3 Q σ → cW p l e rmX5_multiply s m args below meth c (MQ below (va_Qi Q (fun u t => wd D A (rT g u) t.heap) A) args s 0 0 A) D A (rT g σ) 0 6 [(0, .ref (g.1 5000)), (1, .int x1), (2, .int x2), (3, .int x3)] := by
  obtain ⟨hx, hb, hml, hown, hts, hK, hlk⟩ := id X
  intro σ h H locs ls hw hS hl
  unfold wpX5_multiply_0 at h
  refine lv_iload_n hx hb dX5_multiply_0 rfl (lv_at hl 1 rfl) ?_
  refine m_cSi (TT := rT g) (As := [.int x1]) (rest := []) X hl.1 hw hS (kX5_isRegister hg h) mw_113 fX5_isRegister ⟨rfl, rfl, Nat.le_of_ble_eq_true rfl, Nat.le_of_ble_eq_true rfl⟩ rfl rfl (Nat.le_of_ble_eq_true rfl) dX5_multiply_1 (fun r19 σ20 H locs h hw hS => ?_)
  refine lv_if_eq (tgt := 21) hx hb dX5_multiply_4 (by decide) (fun hc => ?_) (fun hc => ?_)
  · replace h := h.1 hc
    exact wX5_multiply_21 hg X hr _ h H locs ls hw hS (lv_sub hl [0, 1, 2, 3] rfl)
  · replace h := h.2 hc
    refine lv_iload_n hx hb dX5_multiply_7 rfl (lv_at hl 2 rfl) ?_
    refine m_cSi (TT := rT g) (As := [.int x2]) (rest := []) X hl.1 hw hS (kX5_isRegister hg h) mw_113 fX5_isRegister ⟨rfl, rfl, Nat.le_of_ble_eq_true rfl, Nat.le_of_ble_eq_true rfl⟩ rfl rfl (Nat.le_of_ble_eq_true rfl) dX5_multiply_8 (fun r21 σ22 H locs h hw hS => ?_)
    refine lv_if_eq (tgt := 21) hx hb dX5_multiply_11 (by decide) (fun hc => ?_) (fun hc => ?_)
    · replace h := h.1 hc
      exact wX5_multiply_21 hg X hr _ h H locs ls hw hS (lv_sub hl [0, 1, 2, 3] rfl)
    · replace h := h.2 hc
      refine lv_iload_n hx hb dX5_multiply_14 rfl (lv_at hl 3 rfl) ?_
      refine m_cSi (TT := rT g) (As := [.int x3]) (rest := []) X hl.1 hw hS (kX5_isRegister hg h) mw_113 fX5_isRegister ⟨rfl, rfl, Nat.le_of_ble_eq_true rfl, Nat.le_of_ble_eq_true rfl⟩ rfl rfl (Nat.le_of_ble_eq_true rfl) dX5_multiply_15 (fun r23 σ24 H locs h hw hS => ?_)
      refine lv_if_ne (tgt := 23) hx hb dX5_multiply_18 (by decide) (fun hc => ?_) (fun hc => ?_)
      · replace h := h.1 hc
        refine lv_aload_n hx hb dX5_multiply_23 rfl (lv_at hl 0 rfl) ?_
        refine lv_bipush (v := (23 : Int32)) hx hb dX5_multiply_24 (by decide) ?_
        refine m_cVv (TT := rT g) (As := [.int (23 : Int32)]) (rest := []) X hl.1 hw hS (kX5_clear hg h) mw_271 fX5_clear qM rfl rfl ⟨rfl, rfl, Nat.le_of_ble_eq_true rfl, Nat.le_of_ble_eq_true rfl⟩ rfl rfl (Nat.le_of_ble_eq_true rfl) dX5_multiply_26 (fun σ26 H locs h hw hS => ?_)
        refine lv_aload_n hx hb dX5_multiply_29 rfl (lv_at hl 0 rfl) ?_
        refine m_get (v := .ref (g.1 5004)) X hw qM rfl inA_X5 3 (by decide) mw_80 rfl dX5_multiply_30 ?_
        refine lv_iload_n hx hb dX5_multiply_33 rfl (lv_at hl 2 rfl) ?_
        obtain ⟨hi, h⟩ := h
        refine m_iald X hw qD 0 rfl hi dX5_multiply_34 ?_
        refine lv_if_lt (tgt := 67) hx hb dX5_multiply_35 (by decide) (fun hc => ?_) (fun hc => ?_)
        · replace h := h.1 hc
          exact wX5_multiply_67 hg X hr _ h H locs ls hw hS (lv_sub hl [0, 1, 2, 3] rfl)
        · replace h := h.2 hc
          refine lv_aload_n hx hb dX5_multiply_38 rfl (lv_at hl 0 rfl) ?_
          refine m_get (v := .ref (g.1 5004)) X hw qM rfl inA_X5 3 (by decide) mw_80 rfl dX5_multiply_39 ?_
          refine lv_iload_n hx hb dX5_multiply_42 rfl (lv_at hl 3 rfl) ?_
          obtain ⟨hi, h⟩ := h
          refine m_iald X hw qD 0 rfl hi dX5_multiply_43 ?_
          refine lv_if_lt (tgt := 67) hx hb dX5_multiply_44 (by decide) (fun hc => ?_) (fun hc => ?_)
          · replace h := h.1 hc
            exact wX5_multiply_67 hg X hr _ h H locs ls hw hS (lv_sub hl [0, 1, 2, 3] rfl)
          · replace h := h.2 hc
            refine lv_aload_n hx hb dX5_multiply_47 rfl (lv_at hl 0 rfl) ?_
            refine m_get (v := .ref (g.1 5004)) X hw qM rfl inA_X5 3 (by decide) mw_80 rfl dX5_multiply_48 ?_
            refine lv_iload_n hx hb dX5_multiply_51 rfl (lv_at hl 2 rfl) ?_
            obtain ⟨hi, h⟩ := h
            refine m_iald X hw qD 0 rfl hi dX5_multiply_52 ?_
            refine lv_aload_n hx hb dX5_multiply_53 rfl (lv_at hl 0 rfl) ?_
            refine m_get (v := .ref (g.1 5004)) X hw qM rfl inA_X5 3 (by decide) mw_80 rfl dX5_multiply_54 ?_
            refine lv_iload_n hx hb dX5_multiply_57 rfl (lv_at hl 3 rfl) ?_
            obtain ⟨hi, h⟩ := h
            refine m_iald X hw qD 0 rfl hi dX5_multiply_58 ?_
            refine lv_iadd hx hb dX5_multiply_59 ?_
            refine lv_bipush (v := (8 : Int32)) hx hb dX5_multiply_60 (by decide) ?_
            refine lv_icmp_le (tgt := 67) hx hb dX5_multiply_62 (by decide) (fun hc => ?_) (fun hc => ?_)
            · replace h := h.1 hc
              exact wX5_multiply_67 hg X hr _ h H locs ls hw hS (lv_sub hl [0, 1, 2, 3] rfl)
            · replace h := h.2 hc
              refine lv_iconst (v := (3 : Int32)) hx hb dX5_multiply_65 (by decide) ?_
              exact m_iret X hr hw hS h dX5_multiply_66
      · replace h := h.2 hc
        exact wX5_multiply_21 hg X hr _ h H locs ls hw hS (lv_sub hl [0, 1, 2, 3] rfl)
def wpX5_multiply (x1 : Int32) (x2 : Int32) (x3 : Int32) (σ : RS) (Q : Int32 → RS → Prop) : Prop := wpX5_multiply_0 x1 x2 x3 Q σ
theorem kX5_multiply {l : Launch} {D : va_G} {A : Nat → Prop} {g : mG} (hg : inj g) {x1 : Int32} {x2 : Int32} {x3 : Int32} {σ : RS} {Q : Int32 → RS → Prop} (h : wpX5_multiply x1 x2 x3 σ Q) : Met l yX5_multiply (Cond.code yX5_multiply cX5_multiply 6 (some .int) :: wsA) rmX5_multiply (mPc D (tyG g) A (rT g σ) [.ref (g.1 5000), .int x1, .int x2, .int x3]) (va_Qi Q (fun u t => wd D A (rT g u) t.heap) A) 0 0 A :=
  m_met (by decide +kernel) (Nat.le_of_ble_eq_true rfl) (fun p e s m below meth c X hr H locs ls hw hS hl => wX5_multiply_0 hg X hr σ h H locs ls hw hS (lv_sub hl [0, 1, 2, 3] rfl))
theorem fX5_multiply : vfit yX5_multiply cX5_multiply 6 (some .int) 3 := ⟨mw_268, mw_269, mw_5, mw_270, by decide +kernel, by decide +kernel, by decide +kernel⟩
/-! BigPolysModel.derive(II)I -/
def rmX5_derive : Room := { frames := 3, cells := 0, slots := 0, locals := 74 }
def wpX5_derive_14 (x1 : Int32) (x2 : Int32) (Q : Int32 → RS → Prop) (σ : RS) : Prop :=
  Q (1 : Int32) σ
set_option maxRecDepth 100000 in
set_option maxHeartbeats 4000000 in
theorem wX5_derive_14 {p : Program} {l : Launch} {e : Env} {s : State} {m : MethodId} {args : Array Value} {below : List Frame} {meth : Method} {c : Code} {D : va_G} {A : Nat → Prop} {g : mG} (hg : inj g) {x1 : Int32} {x2 : Int32} (X : cx p m meth c s args cX5_derive 3 RX5 D (tyG g)) (hr : meth.sig.returnType = (some .int)) {Q : Int32 → RS → Prop} : ∀ (σ : RS), wpX5_derive_14 x1 x2 Q σ → cW p l e rmX5_derive s m args below meth c (MQ below (va_Qi Q (fun u t => wd D A (rT g u) t.heap) A) args s 0 0 A) D A (rT g σ) 14 3 [(0, .ref (g.1 5000)), (1, .int x1), (2, .int x2)] := by
  obtain ⟨hx, hb, hml, hown, hts, hK, hlk⟩ := id X
  intro σ h H locs ls hw hS hl
  unfold wpX5_derive_14 at h
  refine lv_iconst (v := (1 : Int32)) hx hb dX5_derive_14 (by decide) ?_
  exact m_iret X hr hw hS h dX5_derive_15
def wpX5_derive_0 (x1 : Int32) (x2 : Int32) (Q : Int32 → RS → Prop) (σ : RS) : Prop :=
  wpX5_isRegister x1 σ (fun (r1 : Int32) (σ2 : RS) =>
    (r1 = 0 →
      wpX5_derive_14 x1 x2 Q σ2) ∧
    (¬ r1 = 0 →
      wpX5_isRegister x2 σ2 (fun (r3 : Int32) (σ4 : RS) =>
        (¬ r3 = 0 →
          wpX5_deriveTo x2 (23 : Int32) σ4 (fun (σ6 : RS) =>
            wpX5_result x1 (23 : Int32) σ6 (fun (r7 : Int32) (σ8 : RS) =>
              Q r7 σ8))) ∧
        (r3 = 0 →
          wpX5_derive_14 x1 x2 Q σ4))))
set_option maxRecDepth 100000 in
set_option maxHeartbeats 4000000 in
theorem wX5_derive_0 {p : Program} {l : Launch} {e : Env} {s : State} {m : MethodId} {args : Array Value} {below : List Frame} {meth : Method} {c : Code} {D : va_G} {A : Nat → Prop} {g : mG} (hg : inj g) {x1 : Int32} {x2 : Int32} (X : cx p m meth c s args cX5_derive 3 RX5 D (tyG g)) (hr : meth.sig.returnType = (some .int)) {Q : Int32 → RS → Prop} : ∀ (σ : RS), wpX5_derive_0 x1 x2 Q σ → cW p l e rmX5_derive s m args below meth c (MQ below (va_Qi Q (fun u t => wd D A (rT g u) t.heap) A) args s 0 0 A) D A (rT g σ) 0 3 [(0, .ref (g.1 5000)), (1, .int x1), (2, .int x2)] := by
  obtain ⟨hx, hb, hml, hown, hts, hK, hlk⟩ := id X
  intro σ h H locs ls hw hS hl
  unfold wpX5_derive_0 at h
  refine lv_iload_n hx hb dX5_derive_0 rfl (lv_at hl 1 rfl) ?_
  refine m_cSi (TT := rT g) (As := [.int x1]) (rest := []) X hl.1 hw hS (kX5_isRegister hg h) mw_113 fX5_isRegister ⟨rfl, rfl, Nat.le_of_ble_eq_true rfl, Nat.le_of_ble_eq_true rfl⟩ rfl rfl (Nat.le_of_ble_eq_true rfl) dX5_derive_1 (fun r1 σ2 H locs h hw hS => ?_)
  refine lv_if_eq (tgt := 14) hx hb dX5_derive_4 (by decide) (fun hc => ?_) (fun hc => ?_)
  · replace h := h.1 hc
    exact wX5_derive_14 hg X hr _ h H locs ls hw hS (lv_sub hl [0, 1, 2] rfl)
  · replace h := h.2 hc
    refine lv_iload_n hx hb dX5_derive_7 rfl (lv_at hl 2 rfl) ?_
    refine m_cSi (TT := rT g) (As := [.int x2]) (rest := []) X hl.1 hw hS (kX5_isRegister hg h) mw_113 fX5_isRegister ⟨rfl, rfl, Nat.le_of_ble_eq_true rfl, Nat.le_of_ble_eq_true rfl⟩ rfl rfl (Nat.le_of_ble_eq_true rfl) dX5_derive_8 (fun r3 σ4 H locs h hw hS => ?_)
    refine lv_if_ne (tgt := 16) hx hb dX5_derive_11 (by decide) (fun hc => ?_) (fun hc => ?_)
    · replace h := h.1 hc
      refine lv_aload_n hx hb dX5_derive_16 rfl (lv_at hl 0 rfl) ?_
      refine lv_iload_n hx hb dX5_derive_17 rfl (lv_at hl 2 rfl) ?_
      refine lv_bipush (v := (23 : Int32)) hx hb dX5_derive_18 (by decide) ?_
      refine m_cVv (TT := rT g) (As := [.int x2, .int (23 : Int32)]) (rest := []) X hl.1 hw hS (kX5_deriveTo hg h) mw_296 fX5_deriveTo qM rfl rfl ⟨rfl, rfl, Nat.le_of_ble_eq_true rfl, Nat.le_of_ble_eq_true rfl⟩ rfl rfl (Nat.le_of_ble_eq_true rfl) dX5_derive_20 (fun σ6 H locs h hw hS => ?_)
      refine lv_aload_n hx hb dX5_derive_23 rfl (lv_at hl 0 rfl) ?_
      refine lv_iload_n hx hb dX5_derive_24 rfl (lv_at hl 1 rfl) ?_
      refine lv_bipush (v := (23 : Int32)) hx hb dX5_derive_25 (by decide) ?_
      refine m_cVi (TT := rT g) (As := [.int x1, .int (23 : Int32)]) (rest := []) X hl.1 hw hS (kX5_result hg h) mw_231 fX5_result qM rfl rfl ⟨rfl, rfl, Nat.le_of_ble_eq_true rfl, Nat.le_of_ble_eq_true rfl⟩ rfl rfl (Nat.le_of_ble_eq_true rfl) dX5_derive_27 (fun r7 σ8 H locs h hw hS => ?_)
      exact m_iret X hr hw hS h dX5_derive_30
    · replace h := h.2 hc
      exact wX5_derive_14 hg X hr _ h H locs ls hw hS (lv_sub hl [0, 1, 2] rfl)
def wpX5_derive (x1 : Int32) (x2 : Int32) (σ : RS) (Q : Int32 → RS → Prop) : Prop := wpX5_derive_0 x1 x2 Q σ
theorem kX5_derive {l : Launch} {D : va_G} {A : Nat → Prop} {g : mG} (hg : inj g) {x1 : Int32} {x2 : Int32} {σ : RS} {Q : Int32 → RS → Prop} (h : wpX5_derive x1 x2 σ Q) : Met l yX5_derive (Cond.code yX5_derive cX5_derive 3 (some .int) :: wsA) rmX5_derive (mPc D (tyG g) A (rT g σ) [.ref (g.1 5000), .int x1, .int x2]) (va_Qi Q (fun u t => wd D A (rT g u) t.heap) A) 0 0 A :=
  m_met (by decide +kernel) (Nat.le_of_ble_eq_true rfl) (fun p e s m below meth c X hr H locs ls hw hS hl => wX5_derive_0 hg X hr σ h H locs ls hw hS (lv_sub hl [0, 1, 2] rfl))
theorem fX5_derive : vfit yX5_derive cX5_derive 3 (some .int) 2 := ⟨mw_293, mw_294, mw_5, mw_295, by decide +kernel, by decide +kernel, by decide +kernel⟩
/-! BigPolysModel.shift(III)I -/
def rmX5_shift : Room := { frames := 3, cells := 0, slots := 0, locals := 69 }
def wpX5_shift_117 (x1 : Int32) (x2 : Int32) (x3 : Int32) (Q : Int32 → RS → Prop) (N39 : Int32 → RS → Prop) (N48 : Int32 → Int32 → RS → Prop) (i4 : Int32) (i5 : Int32) (σ : RS) : Prop :=
  ∀ a1 : Int32, a1 = i5 + (-1 : Int32) →
  N48 i4 a1 σ
set_option maxRecDepth 100000 in
set_option maxHeartbeats 4000000 in
theorem wX5_shift_117 {p : Program} {l : Launch} {e : Env} {s : State} {m : MethodId} {args : Array Value} {below : List Frame} {meth : Method} {c : Code} {D : va_G} {A : Nat → Prop} {g : mG} (hg : inj g) {x1 : Int32} {x2 : Int32} {x3 : Int32} (X : cx p m meth c s args cX5_shift 6 RX5 D (tyG g)) (hr : meth.sig.returnType = (some .int)) {Q : Int32 → RS → Prop} {N39 : Int32 → RS → Prop} (hN39 : ∀ (i4 : Int32) (σ : RS), N39 i4 σ → cW p l e rmX5_shift s m args below meth c (MQ below (va_Qi Q (fun u t => wd D A (rT g u) t.heap) A) args s 0 0 A) D A (rT g σ) 39 6 [(0, .ref (g.1 5000)), (1, .int x1), (2, .int x2), (3, .int x3), (4, .int i4)]) {N48 : Int32 → Int32 → RS → Prop} (hN48 : ∀ (i4 : Int32) (i5 : Int32) (σ : RS), N48 i4 i5 σ → cW p l e rmX5_shift s m args below meth c (MQ below (va_Qi Q (fun u t => wd D A (rT g u) t.heap) A) args s 0 0 A) D A (rT g σ) 48 6 [(0, .ref (g.1 5000)), (1, .int x1), (2, .int x2), (3, .int x3), (4, .int i4), (5, .int i5)]) : ∀ (i4 : Int32) (i5 : Int32) (σ : RS), wpX5_shift_117 x1 x2 x3 Q N39 N48 i4 i5 σ → cW p l e rmX5_shift s m args below meth c (MQ below (va_Qi Q (fun u t => wd D A (rT g u) t.heap) A) args s 0 0 A) D A (rT g σ) 117 6 [(0, .ref (g.1 5000)), (1, .int x1), (2, .int x2), (3, .int x3), (4, .int i4), (5, .int i5)] := by
  obtain ⟨hx, hb, hml, hown, hts, hK, hlk⟩ := id X
  intro i4 i5 σ h H locs ls hw hS hl
  unfold wpX5_shift_117 at h
  obtain ⟨a1, ea1⟩ : ∃ z : Int32, z = i5 + (-1 : Int32) := ⟨_, rfl⟩
  replace h := h a1 ea1
  refine lv_iinc (v := a1) (lv' := [(5, .int a1), (0, .ref (g.1 5000)), (1, .int x1), (2, .int x2), (3, .int x3), (4, .int i4)]) hx hb dX5_shift_117 hl (k := 5) rfl (by rw [ea1]; rfl) (by decide) rfl (fun ls hl => ?_)
  refine lv_goto (tgt := 48) hx hb dX5_shift_120 (by decide) ?_
  exact hN48 i4 a1 _ h H locs ls hw hS (lv_sub hl [1, 2, 3, 4, 5, 0] rfl)
def wbX5_shift_48 (x1 : Int32) (x2 : Int32) (x3 : Int32) (Q : Int32 → RS → Prop) (N39 : Int32 → RS → Prop) (N48 : Int32 → Int32 → RS → Prop) (i4 : Int32) (i5 : Int32) (σ : RS) : Prop :=
  (i5 < 0 →
    wpX5_at (23 : Int32) (0 : Int32) σ (fun (r2 : Int32) (σ3 : RS) =>
      wpX5_at (23 : Int32) (0 : Int32) σ3 (fun (r4 : Int32) (σ5 : RS) =>
        wpX5_at x2 i4 σ5 (fun (r6 : Int32) (σ7 : RS) =>
          wpX5_sum r2 r4 r6 (1 : Int32) σ7 (fun (σ9 : RS) =>
            ∀ a10 : Int32, a10 = i4 + (-1 : Int32) →
            N39 a10 σ9))))) ∧
  (¬ i5 < 0 →
    wpX5_at (23 : Int32) i5 σ (fun (r11 : Int32) (σ12 : RS) =>
      wpX5_times (219 : Int32) r11 (221 : Int32) σ12 (fun (σ14 : RS) =>
        wpX5_at (23 : Int32) i5 σ14 (fun (r15 : Int32) (σ16 : RS) =>
          wpX5_copy (219 : Int32) r15 σ16 (fun (σ18 : RS) =>
            (i5 ≤ 0 →
              wpX5_shift_117 x1 x2 x3 Q N39 N48 i4 i5 σ18) ∧
            (¬ i5 ≤ 0 →
              wpX5_at (23 : Int32) i5 σ18 (fun (r19 : Int32) (σ20 : RS) =>
                wpX5_at (23 : Int32) i5 σ20 (fun (r21 : Int32) (σ22 : RS) =>
                  wpX5_at (23 : Int32) (i5 - (1 : Int32)) σ22 (fun (r23 : Int32) (σ24 : RS) =>
                    wpX5_sum r19 r21 r23 (1 : Int32) σ24 (fun (σ26 : RS) =>
                      wpX5_shift_117 x1 x2 x3 Q N39 N48 i4 i5 σ26))))))))))
set_option maxRecDepth 100000 in
set_option maxHeartbeats 4000000 in
theorem wX5_shift_48 {p : Program} {l : Launch} {e : Env} {s : State} {m : MethodId} {args : Array Value} {below : List Frame} {meth : Method} {c : Code} {D : va_G} {A : Nat → Prop} {g : mG} (hg : inj g) {x1 : Int32} {x2 : Int32} {x3 : Int32} (X : cx p m meth c s args cX5_shift 6 RX5 D (tyG g)) (hr : meth.sig.returnType = (some .int)) {Q : Int32 → RS → Prop} {N39 : Int32 → RS → Prop} (hN39 : ∀ (i4 : Int32) (σ : RS), N39 i4 σ → cW p l e rmX5_shift s m args below meth c (MQ below (va_Qi Q (fun u t => wd D A (rT g u) t.heap) A) args s 0 0 A) D A (rT g σ) 39 6 [(0, .ref (g.1 5000)), (1, .int x1), (2, .int x2), (3, .int x3), (4, .int i4)]) : ∀ (n : Nat) (i4 : Int32) (i5 : Int32) (σ : RS), lq3 (wbX5_shift_48 x1 x2 x3 Q N39) n i4 i5 σ → cW p l e rmX5_shift s m args below meth c (MQ below (va_Qi Q (fun u t => wd D A (rT g u) t.heap) A) args s 0 0 A) D A (rT g σ) 48 6 [(0, .ref (g.1 5000)), (1, .int x1), (2, .int x2), (3, .int x3), (4, .int i4), (5, .int i5)] := by
  obtain ⟨hx, hb, hml, hown, hts, hK, hlk⟩ := id X
  intro n
  induction n with
  | zero =>
    intro i4 i5 σ h
    exact h.elim
  | succ n hN48 =>
    intro i4 i5 σ h H locs ls hw hS hl
    replace h : wbX5_shift_48 x1 x2 x3 Q N39 (lq3 (wbX5_shift_48 x1 x2 x3 Q N39) n) i4 i5 σ := h
    unfold wbX5_shift_48 at h
    refine lv_iload hx hb dX5_shift_48 (lv_at hl 5 rfl) ?_
    refine lv_if_lt (tgt := 123) hx hb dX5_shift_50 (by decide) (fun hc => ?_) (fun hc => ?_)
    · replace h := h.1 hc
      refine lv_aload_n hx hb dX5_shift_123 rfl (lv_at hl 0 rfl) ?_
      refine lv_bipush (v := (23 : Int32)) hx hb dX5_shift_124 (by decide) ?_
      refine lv_iconst (v := (0 : Int32)) hx hb dX5_shift_126 (by decide) ?_
      refine m_cSi (TT := rT g) (As := [.int (23 : Int32), .int (0 : Int32)]) (rest := [.ref (g.1 5000)]) X hl.1 hw hS (kX5_at hg h) mw_119 fX5_at ⟨rfl, rfl, Nat.le_of_ble_eq_true rfl, Nat.le_of_ble_eq_true rfl⟩ rfl rfl (Nat.le_of_ble_eq_true rfl) dX5_shift_127 (fun r2 σ3 H locs h hw hS => ?_)
      refine lv_bipush (v := (23 : Int32)) hx hb dX5_shift_130 (by decide) ?_
      refine lv_iconst (v := (0 : Int32)) hx hb dX5_shift_132 (by decide) ?_
      refine m_cSi (TT := rT g) (As := [.int (23 : Int32), .int (0 : Int32)]) (rest := [.int r2, .ref (g.1 5000)]) X hl.1 hw hS (kX5_at hg h) mw_119 fX5_at ⟨rfl, rfl, Nat.le_of_ble_eq_true rfl, Nat.le_of_ble_eq_true rfl⟩ rfl rfl (Nat.le_of_ble_eq_true rfl) dX5_shift_133 (fun r4 σ5 H locs h hw hS => ?_)
      refine lv_iload_n hx hb dX5_shift_136 rfl (lv_at hl 2 rfl) ?_
      refine lv_iload hx hb dX5_shift_137 (lv_at hl 4 rfl) ?_
      refine m_cSi (TT := rT g) (As := [.int x2, .int i4]) (rest := [.int r4, .int r2, .ref (g.1 5000)]) X hl.1 hw hS (kX5_at hg h) mw_119 fX5_at ⟨rfl, rfl, Nat.le_of_ble_eq_true rfl, Nat.le_of_ble_eq_true rfl⟩ rfl rfl (Nat.le_of_ble_eq_true rfl) dX5_shift_139 (fun r6 σ7 H locs h hw hS => ?_)
      refine lv_iconst (v := (1 : Int32)) hx hb dX5_shift_142 (by decide) ?_
      refine m_cVv (TT := rT g) (As := [.int r2, .int r4, .int r6, .int (1 : Int32)]) (rest := []) X hl.1 hw hS (kX5_sum hg h) mw_155 fX5_sum qM rfl rfl ⟨rfl, rfl, Nat.le_of_ble_eq_true rfl, Nat.le_of_ble_eq_true rfl⟩ rfl rfl (Nat.le_of_ble_eq_true rfl) dX5_shift_143 (fun σ9 H locs h hw hS => ?_)
      obtain ⟨a10, ea10⟩ : ∃ z : Int32, z = i4 + (-1 : Int32) := ⟨_, rfl⟩
      replace h := h a10 ea10
      refine lv_iinc (v := a10) (lv' := [(4, .int a10), (0, .ref (g.1 5000)), (1, .int x1), (2, .int x2), (3, .int x3), (5, .int i5)]) hx hb dX5_shift_146 hl (k := 4) rfl (by rw [ea10]; rfl) (by decide) rfl (fun ls hl => ?_)
      refine lv_goto (tgt := 39) hx hb dX5_shift_149 (by decide) ?_
      exact hN39 a10 _ h H locs ls hw hS (lv_sub hl [1, 2, 3, 4, 0] rfl)
    · replace h := h.2 hc
      refine lv_aload_n hx hb dX5_shift_53 rfl (lv_at hl 0 rfl) ?_
      refine lv_sipush (v := (219 : Int32)) hx hb dX5_shift_54 (by decide) ?_
      refine lv_bipush (v := (23 : Int32)) hx hb dX5_shift_57 (by decide) ?_
      refine lv_iload hx hb dX5_shift_59 (lv_at hl 5 rfl) ?_
      refine m_cSi (TT := rT g) (As := [.int (23 : Int32), .int i5]) (rest := [.int (219 : Int32), .ref (g.1 5000)]) X hl.1 hw hS (kX5_at hg h) mw_119 fX5_at ⟨rfl, rfl, Nat.le_of_ble_eq_true rfl, Nat.le_of_ble_eq_true rfl⟩ rfl rfl (Nat.le_of_ble_eq_true rfl) dX5_shift_61 (fun r11 σ12 H locs h hw hS => ?_)
      refine lv_sipush (v := (221 : Int32)) hx hb dX5_shift_64 (by decide) ?_
      refine m_cVv (TT := rT g) (As := [.int (219 : Int32), .int r11, .int (221 : Int32)]) (rest := []) X hl.1 hw hS (kX5_times hg h) mw_275 fX5_times qM rfl rfl ⟨rfl, rfl, Nat.le_of_ble_eq_true rfl, Nat.le_of_ble_eq_true rfl⟩ rfl rfl (Nat.le_of_ble_eq_true rfl) dX5_shift_67 (fun σ14 H locs h hw hS => ?_)
      refine lv_aload_n hx hb dX5_shift_70 rfl (lv_at hl 0 rfl) ?_
      refine lv_sipush (v := (219 : Int32)) hx hb dX5_shift_71 (by decide) ?_
      refine lv_bipush (v := (23 : Int32)) hx hb dX5_shift_74 (by decide) ?_
      refine lv_iload hx hb dX5_shift_76 (lv_at hl 5 rfl) ?_
      refine m_cSi (TT := rT g) (As := [.int (23 : Int32), .int i5]) (rest := [.int (219 : Int32), .ref (g.1 5000)]) X hl.1 hw hS (kX5_at hg h) mw_119 fX5_at ⟨rfl, rfl, Nat.le_of_ble_eq_true rfl, Nat.le_of_ble_eq_true rfl⟩ rfl rfl (Nat.le_of_ble_eq_true rfl) dX5_shift_78 (fun r15 σ16 H locs h hw hS => ?_)
      refine m_cVv (TT := rT g) (As := [.int (219 : Int32), .int r15]) (rest := []) X hl.1 hw hS (kX5_copy hg h) mw_159 fX5_copy qM rfl rfl ⟨rfl, rfl, Nat.le_of_ble_eq_true rfl, Nat.le_of_ble_eq_true rfl⟩ rfl rfl (Nat.le_of_ble_eq_true rfl) dX5_shift_81 (fun σ18 H locs h hw hS => ?_)
      refine lv_iload hx hb dX5_shift_84 (lv_at hl 5 rfl) ?_
      refine lv_if_le (tgt := 117) hx hb dX5_shift_86 (by decide) (fun hc => ?_) (fun hc => ?_)
      · replace h := h.1 hc
        exact wX5_shift_117 hg X hr hN39 hN48 i4 i5 _ h H locs ls hw hS (lv_sub hl [0, 1, 2, 3, 4, 5] rfl)
      · replace h := h.2 hc
        refine lv_aload_n hx hb dX5_shift_89 rfl (lv_at hl 0 rfl) ?_
        refine lv_bipush (v := (23 : Int32)) hx hb dX5_shift_90 (by decide) ?_
        refine lv_iload hx hb dX5_shift_92 (lv_at hl 5 rfl) ?_
        refine m_cSi (TT := rT g) (As := [.int (23 : Int32), .int i5]) (rest := [.ref (g.1 5000)]) X hl.1 hw hS (kX5_at hg h) mw_119 fX5_at ⟨rfl, rfl, Nat.le_of_ble_eq_true rfl, Nat.le_of_ble_eq_true rfl⟩ rfl rfl (Nat.le_of_ble_eq_true rfl) dX5_shift_94 (fun r19 σ20 H locs h hw hS => ?_)
        refine lv_bipush (v := (23 : Int32)) hx hb dX5_shift_97 (by decide) ?_
        refine lv_iload hx hb dX5_shift_99 (lv_at hl 5 rfl) ?_
        refine m_cSi (TT := rT g) (As := [.int (23 : Int32), .int i5]) (rest := [.int r19, .ref (g.1 5000)]) X hl.1 hw hS (kX5_at hg h) mw_119 fX5_at ⟨rfl, rfl, Nat.le_of_ble_eq_true rfl, Nat.le_of_ble_eq_true rfl⟩ rfl rfl (Nat.le_of_ble_eq_true rfl) dX5_shift_101 (fun r21 σ22 H locs h hw hS => ?_)
        refine lv_bipush (v := (23 : Int32)) hx hb dX5_shift_104 (by decide) ?_
        refine lv_iload hx hb dX5_shift_106 (lv_at hl 5 rfl) ?_
        refine lv_iconst (v := (1 : Int32)) hx hb dX5_shift_108 (by decide) ?_
        refine lv_isub hx hb dX5_shift_109 ?_
        refine m_cSi (TT := rT g) (As := [.int (23 : Int32), .int (i5 - (1 : Int32))]) (rest := [.int r21, .int r19, .ref (g.1 5000)]) X hl.1 hw hS (kX5_at hg h) mw_119 fX5_at ⟨rfl, rfl, Nat.le_of_ble_eq_true rfl, Nat.le_of_ble_eq_true rfl⟩ rfl rfl (Nat.le_of_ble_eq_true rfl) dX5_shift_110 (fun r23 σ24 H locs h hw hS => ?_)
        refine lv_iconst (v := (1 : Int32)) hx hb dX5_shift_113 (by decide) ?_
        refine m_cVv (TT := rT g) (As := [.int r19, .int r21, .int r23, .int (1 : Int32)]) (rest := []) X hl.1 hw hS (kX5_sum hg h) mw_155 fX5_sum qM rfl rfl ⟨rfl, rfl, Nat.le_of_ble_eq_true rfl, Nat.le_of_ble_eq_true rfl⟩ rfl rfl (Nat.le_of_ble_eq_true rfl) dX5_shift_114 (fun σ26 H locs h hw hS => ?_)
        exact wX5_shift_117 hg X hr hN39 hN48 i4 i5 _ h H locs ls hw hS (lv_sub hl [0, 1, 2, 3, 4, 5] rfl)
def wbX5_shift_39 (x1 : Int32) (x2 : Int32) (x3 : Int32) (Q : Int32 → RS → Prop) (N39 : Int32 → RS → Prop) (i4 : Int32) (σ : RS) : Prop :=
  (i4 < 0 →
    wpX5_measure (23 : Int32) σ (fun (σ28 : RS) =>
      wpX5_result x1 (23 : Int32) σ28 (fun (r29 : Int32) (σ30 : RS) =>
        Q r29 σ30))) ∧
  (¬ i4 < 0 →
    ∃ n, lq3 (wbX5_shift_48 x1 x2 x3 Q N39) n i4 (8 : Int32) σ)
set_option maxRecDepth 100000 in
set_option maxHeartbeats 4000000 in
theorem wX5_shift_39 {p : Program} {l : Launch} {e : Env} {s : State} {m : MethodId} {args : Array Value} {below : List Frame} {meth : Method} {c : Code} {D : va_G} {A : Nat → Prop} {g : mG} (hg : inj g) {x1 : Int32} {x2 : Int32} {x3 : Int32} (X : cx p m meth c s args cX5_shift 6 RX5 D (tyG g)) (hr : meth.sig.returnType = (some .int)) {Q : Int32 → RS → Prop} : ∀ (n : Nat) (i4 : Int32) (σ : RS), lq2 (wbX5_shift_39 x1 x2 x3 Q) n i4 σ → cW p l e rmX5_shift s m args below meth c (MQ below (va_Qi Q (fun u t => wd D A (rT g u) t.heap) A) args s 0 0 A) D A (rT g σ) 39 6 [(0, .ref (g.1 5000)), (1, .int x1), (2, .int x2), (3, .int x3), (4, .int i4)] := by
  obtain ⟨hx, hb, hml, hown, hts, hK, hlk⟩ := id X
  intro n
  induction n with
  | zero =>
    intro i4 σ h
    exact h.elim
  | succ n hN39 =>
    intro i4 σ h H locs ls hw hS hl
    replace h : wbX5_shift_39 x1 x2 x3 Q (lq2 (wbX5_shift_39 x1 x2 x3 Q) n) i4 σ := h
    unfold wbX5_shift_39 at h
    refine lv_iload hx hb dX5_shift_39 (lv_at hl 4 rfl) ?_
    refine lv_if_lt (tgt := 152) hx hb dX5_shift_41 (by decide) (fun hc => ?_) (fun hc => ?_)
    · replace h := h.1 hc
      refine lv_aload_n hx hb dX5_shift_152 rfl (lv_at hl 0 rfl) ?_
      refine lv_bipush (v := (23 : Int32)) hx hb dX5_shift_153 (by decide) ?_
      refine m_cVv (TT := rT g) (As := [.int (23 : Int32)]) (rest := []) X hl.1 hw hS (kX5_measure hg h) mw_126 fX5_measure qM rfl rfl ⟨rfl, rfl, Nat.le_of_ble_eq_true rfl, Nat.le_of_ble_eq_true rfl⟩ rfl rfl (Nat.le_of_ble_eq_true rfl) dX5_shift_155 (fun σ28 H locs h hw hS => ?_)
      refine lv_aload_n hx hb dX5_shift_158 rfl (lv_at hl 0 rfl) ?_
      refine lv_iload_n hx hb dX5_shift_159 rfl (lv_at hl 1 rfl) ?_
      refine lv_bipush (v := (23 : Int32)) hx hb dX5_shift_160 (by decide) ?_
      refine m_cVi (TT := rT g) (As := [.int x1, .int (23 : Int32)]) (rest := []) X hl.1 hw hS (kX5_result hg h) mw_231 fX5_result qM rfl rfl ⟨rfl, rfl, Nat.le_of_ble_eq_true rfl, Nat.le_of_ble_eq_true rfl⟩ rfl rfl (Nat.le_of_ble_eq_true rfl) dX5_shift_162 (fun r29 σ30 H locs h hw hS => ?_)
      exact m_iret X hr hw hS h dX5_shift_165
    · replace h := h.2 hc
      refine lv_bipush (v := (8 : Int32)) hx hb dX5_shift_44 (by decide) ?_
      refine lv_istore (lv' := [(5, .int (8 : Int32)), (0, .ref (g.1 5000)), (1, .int x1), (2, .int x2), (3, .int x3), (4, .int i4)]) hx hb dX5_shift_46 hl (by decide) rfl (fun ls hl => ?_)
      obtain ⟨n9, h⟩ := h
      exact wX5_shift_48 hg X hr hN39 n9 i4 (8 : Int32) _ h H locs ls hw hS (lv_sub hl [1, 2, 3, 4, 5, 0] rfl)
def wpX5_shift_14 (x1 : Int32) (x2 : Int32) (x3 : Int32) (Q : Int32 → RS → Prop) (σ : RS) : Prop :=
  Q (1 : Int32) σ
set_option maxRecDepth 100000 in
set_option maxHeartbeats 4000000 in
theorem wX5_shift_14 {p : Program} {l : Launch} {e : Env} {s : State} {m : MethodId} {args : Array Value} {below : List Frame} {meth : Method} {c : Code} {D : va_G} {A : Nat → Prop} {g : mG} (hg : inj g) {x1 : Int32} {x2 : Int32} {x3 : Int32} (X : cx p m meth c s args cX5_shift 6 RX5 D (tyG g)) (hr : meth.sig.returnType = (some .int)) {Q : Int32 → RS → Prop} : ∀ (σ : RS), wpX5_shift_14 x1 x2 x3 Q σ → cW p l e rmX5_shift s m args below meth c (MQ below (va_Qi Q (fun u t => wd D A (rT g u) t.heap) A) args s 0 0 A) D A (rT g σ) 14 6 [(0, .ref (g.1 5000)), (1, .int x1), (2, .int x2), (3, .int x3)] := by
  obtain ⟨hx, hb, hml, hown, hts, hK, hlk⟩ := id X
  intro σ h H locs ls hw hS hl
  unfold wpX5_shift_14 at h
  refine lv_iconst (v := (1 : Int32)) hx hb dX5_shift_14 (by decide) ?_
  exact m_iret X hr hw hS h dX5_shift_15
def wpX5_shift_0 (x1 : Int32) (x2 : Int32) (x3 : Int32) (Q : Int32 → RS → Prop) (σ : RS) : Prop :=
  wpX5_isRegister x1 σ (fun (r31 : Int32) (σ32 : RS) =>
    (r31 = 0 →
      wpX5_shift_14 x1 x2 x3 Q σ32) ∧
    (¬ r31 = 0 →
      wpX5_isRegister x2 σ32 (fun (r33 : Int32) (σ34 : RS) =>
        (¬ r33 = 0 →
          wpX5_clear (23 : Int32) σ34 (fun (σ36 : RS) =>
            wpX5_put (221 : Int32) x3.toInt64 σ36 (fun (σ38 : RS) =>
              vp_in x2 24 ∧ (
              ∀ a39 : Int32, a39 = rD σ38 x2.toNatClampNeg →
              ∃ n, lq2 (wbX5_shift_39 x1 x2 x3 Q) n a39 σ38)))) ∧
        (r33 = 0 →
          wpX5_shift_14 x1 x2 x3 Q σ34))))
set_option maxRecDepth 100000 in
set_option maxHeartbeats 4000000 in
theorem wX5_shift_0 {p : Program} {l : Launch} {e : Env} {s : State} {m : MethodId} {args : Array Value} {below : List Frame} {meth : Method} {c : Code} {D : va_G} {A : Nat → Prop} {g : mG} (hg : inj g) {x1 : Int32} {x2 : Int32} {x3 : Int32} (X : cx p m meth c s args cX5_shift 6 RX5 D (tyG g)) (hr : meth.sig.returnType = (some .int)) {Q : Int32 → RS → Prop} : ∀ (σ : RS), wpX5_shift_0 x1 x2 x3 Q σ → cW p l e rmX5_shift s m args below meth c (MQ below (va_Qi Q (fun u t => wd D A (rT g u) t.heap) A) args s 0 0 A) D A (rT g σ) 0 6 [(0, .ref (g.1 5000)), (1, .int x1), (2, .int x2), (3, .int x3)] := by
  obtain ⟨hx, hb, hml, hown, hts, hK, hlk⟩ := id X
  intro σ h H locs ls hw hS hl
  unfold wpX5_shift_0 at h
  refine lv_iload_n hx hb dX5_shift_0 rfl (lv_at hl 1 rfl) ?_
  refine m_cSi (TT := rT g) (As := [.int x1]) (rest := []) X hl.1 hw hS (kX5_isRegister hg h) mw_113 fX5_isRegister ⟨rfl, rfl, Nat.le_of_ble_eq_true rfl, Nat.le_of_ble_eq_true rfl⟩ rfl rfl (Nat.le_of_ble_eq_true rfl) dX5_shift_1 (fun r31 σ32 H locs h hw hS => ?_)
  refine lv_if_eq (tgt := 14) hx hb dX5_shift_4 (by decide) (fun hc => ?_) (fun hc => ?_)
  · replace h := h.1 hc
    exact wX5_shift_14 hg X hr _ h H locs ls hw hS (lv_sub hl [0, 1, 2, 3] rfl)
  · replace h := h.2 hc
    refine lv_iload_n hx hb dX5_shift_7 rfl (lv_at hl 2 rfl) ?_
    refine m_cSi (TT := rT g) (As := [.int x2]) (rest := []) X hl.1 hw hS (kX5_isRegister hg h) mw_113 fX5_isRegister ⟨rfl, rfl, Nat.le_of_ble_eq_true rfl, Nat.le_of_ble_eq_true rfl⟩ rfl rfl (Nat.le_of_ble_eq_true rfl) dX5_shift_8 (fun r33 σ34 H locs h hw hS => ?_)
    refine lv_if_ne (tgt := 16) hx hb dX5_shift_11 (by decide) (fun hc => ?_) (fun hc => ?_)
    · replace h := h.1 hc
      refine lv_aload_n hx hb dX5_shift_16 rfl (lv_at hl 0 rfl) ?_
      refine lv_bipush (v := (23 : Int32)) hx hb dX5_shift_17 (by decide) ?_
      refine m_cVv (TT := rT g) (As := [.int (23 : Int32)]) (rest := []) X hl.1 hw hS (kX5_clear hg h) mw_271 fX5_clear qM rfl rfl ⟨rfl, rfl, Nat.le_of_ble_eq_true rfl, Nat.le_of_ble_eq_true rfl⟩ rfl rfl (Nat.le_of_ble_eq_true rfl) dX5_shift_19 (fun σ36 H locs h hw hS => ?_)
      refine lv_aload_n hx hb dX5_shift_22 rfl (lv_at hl 0 rfl) ?_
      refine lv_sipush (v := (221 : Int32)) hx hb dX5_shift_23 (by decide) ?_
      refine lv_iload_n hx hb dX5_shift_26 rfl (lv_at hl 3 rfl) ?_
      refine lv_i2l (v := x3.toInt64) hx hb dX5_shift_27 rfl ?_
      refine m_cVv (TT := rT g) (As := [.int (221 : Int32), .long x3.toInt64]) (rest := []) X hl.1 hw hS (kX5_put hg h) mw_151 fX5_put qM rfl rfl ⟨rfl, rfl, Nat.le_of_ble_eq_true rfl, Nat.le_of_ble_eq_true rfl⟩ rfl rfl (Nat.le_of_ble_eq_true rfl) dX5_shift_28 (fun σ38 H locs h hw hS => ?_)
      refine lv_aload_n hx hb dX5_shift_31 rfl (lv_at hl 0 rfl) ?_
      refine m_get (v := .ref (g.1 5004)) X hw qM rfl inA_X5 3 (by decide) mw_80 rfl dX5_shift_32 ?_
      refine lv_iload_n hx hb dX5_shift_35 rfl (lv_at hl 2 rfl) ?_
      obtain ⟨hi, h⟩ := h
      refine m_iald X hw qD 0 rfl hi dX5_shift_36 ?_
      refine lv_topi (fun a39 ea39 => ?_)
      replace h := h a39 ea39
      refine lv_istore (lv' := [(4, .int a39), (0, .ref (g.1 5000)), (1, .int x1), (2, .int x2), (3, .int x3)]) hx hb dX5_shift_37 hl (by decide) rfl (fun ls hl => ?_)
      obtain ⟨n9, h⟩ := h
      exact wX5_shift_39 hg X hr n9 a39 _ h H locs ls hw hS (lv_sub hl [1, 2, 3, 4, 0] rfl)
    · replace h := h.2 hc
      exact wX5_shift_14 hg X hr _ h H locs ls hw hS (lv_sub hl [0, 1, 2, 3] rfl)
def wpX5_shift (x1 : Int32) (x2 : Int32) (x3 : Int32) (σ : RS) (Q : Int32 → RS → Prop) : Prop := wpX5_shift_0 x1 x2 x3 Q σ
theorem kX5_shift {l : Launch} {D : va_G} {A : Nat → Prop} {g : mG} (hg : inj g) {x1 : Int32} {x2 : Int32} {x3 : Int32} {σ : RS} {Q : Int32 → RS → Prop} (h : wpX5_shift x1 x2 x3 σ Q) : Met l yX5_shift (Cond.code yX5_shift cX5_shift 6 (some .int) :: wsA) rmX5_shift (mPc D (tyG g) A (rT g σ) [.ref (g.1 5000), .int x1, .int x2, .int x3]) (va_Qi Q (fun u t => wd D A (rT g u) t.heap) A) 0 0 A :=
  m_met (by decide +kernel) (Nat.le_of_ble_eq_true rfl) (fun p e s m below meth c X hr H locs ls hw hS hl => wX5_shift_0 hg X hr σ h H locs ls hw hS (lv_sub hl [0, 1, 2, 3] rfl))
theorem fX5_shift : vfit yX5_shift cX5_shift 6 (some .int) 3 := ⟨mw_311, mw_312, mw_5, mw_313, by decide +kernel, by decide +kernel, by decide +kernel⟩
/-! BigPolysModel.remainder(III)I -/
def rmX5_remainder : Room := { frames := 3, cells := 0, slots := 0, locals := 85 }
def wpX5_remainder_21 (x1 : Int32) (x2 : Int32) (x3 : Int32) (Q : Int32 → RS → Prop) (σ : RS) : Prop :=
  Q (1 : Int32) σ
set_option maxRecDepth 100000 in
set_option maxHeartbeats 4000000 in
theorem wX5_remainder_21 {p : Program} {l : Launch} {e : Env} {s : State} {m : MethodId} {args : Array Value} {below : List Frame} {meth : Method} {c : Code} {D : va_G} {A : Nat → Prop} {g : mG} (hg : inj g) {x1 : Int32} {x2 : Int32} {x3 : Int32} (X : cx p m meth c s args cX5_remainder 4 RX5 D (tyG g)) (hr : meth.sig.returnType = (some .int)) {Q : Int32 → RS → Prop} : ∀ (σ : RS), wpX5_remainder_21 x1 x2 x3 Q σ → cW p l e rmX5_remainder s m args below meth c (MQ below (va_Qi Q (fun u t => wd D A (rT g u) t.heap) A) args s 0 0 A) D A (rT g σ) 21 4 [(0, .ref (g.1 5000)), (1, .int x1), (2, .int x2), (3, .int x3)] := by
  obtain ⟨hx, hb, hml, hown, hts, hK, hlk⟩ := id X
  intro σ h H locs ls hw hS hl
  unfold wpX5_remainder_21 at h
  refine lv_iconst (v := (1 : Int32)) hx hb dX5_remainder_21 (by decide) ?_
  exact m_iret X hr hw hS h dX5_remainder_22
def wpX5_remainder_0 (x1 : Int32) (x2 : Int32) (x3 : Int32) (Q : Int32 → RS → Prop) (σ : RS) : Prop :=
  wpX5_isRegister x1 σ (fun (r1 : Int32) (σ2 : RS) =>
    (r1 = 0 →
      wpX5_remainder_21 x1 x2 x3 Q σ2) ∧
    (¬ r1 = 0 →
      wpX5_isRegister x2 σ2 (fun (r3 : Int32) (σ4 : RS) =>
        (r3 = 0 →
          wpX5_remainder_21 x1 x2 x3 Q σ4) ∧
        (¬ r3 = 0 →
          wpX5_isRegister x3 σ4 (fun (r5 : Int32) (σ6 : RS) =>
            (¬ r5 = 0 →
              vp_in x3 24 ∧ (
              (0 ≤ (rD σ6 x3.toNatClampNeg) →
                wpX5_copyAll x2 (18 : Int32) σ6 (fun (σ8 : RS) =>
                  wpX5_copyAll x3 (19 : Int32) σ8 (fun (σ10 : RS) =>
                    wpX5_remain (0 : Int32) σ10 (fun (σ12 : RS) =>
                      wpX5_result x1 (20 : Int32) σ12 (fun (r13 : Int32) (σ14 : RS) =>
                        Q r13 σ14))))) ∧
              (¬ 0 ≤ (rD σ6 x3.toNatClampNeg) →
                Q (2 : Int32) σ6))) ∧
            (r5 = 0 →
              wpX5_remainder_21 x1 x2 x3 Q σ6))))))
set_option maxRecDepth 100000 in
set_option maxHeartbeats 4000000 in
theorem wX5_remainder_0 {p : Program} {l : Launch} {e : Env} {s : State} {m : MethodId} {args : Array Value} {below : List Frame} {meth : Method} {c : Code} {D : va_G} {A : Nat → Prop} {g : mG} (hg : inj g) {x1 : Int32} {x2 : Int32} {x3 : Int32} (X : cx p m meth c s args cX5_remainder 4 RX5 D (tyG g)) (hr : meth.sig.returnType = (some .int)) {Q : Int32 → RS → Prop} : ∀ (σ : RS), wpX5_remainder_0 x1 x2 x3 Q σ → cW p l e rmX5_remainder s m args below meth c (MQ below (va_Qi Q (fun u t => wd D A (rT g u) t.heap) A) args s 0 0 A) D A (rT g σ) 0 4 [(0, .ref (g.1 5000)), (1, .int x1), (2, .int x2), (3, .int x3)] := by
  obtain ⟨hx, hb, hml, hown, hts, hK, hlk⟩ := id X
  intro σ h H locs ls hw hS hl
  unfold wpX5_remainder_0 at h
  refine lv_iload_n hx hb dX5_remainder_0 rfl (lv_at hl 1 rfl) ?_
  refine m_cSi (TT := rT g) (As := [.int x1]) (rest := []) X hl.1 hw hS (kX5_isRegister hg h) mw_113 fX5_isRegister ⟨rfl, rfl, Nat.le_of_ble_eq_true rfl, Nat.le_of_ble_eq_true rfl⟩ rfl rfl (Nat.le_of_ble_eq_true rfl) dX5_remainder_1 (fun r1 σ2 H locs h hw hS => ?_)
  refine lv_if_eq (tgt := 21) hx hb dX5_remainder_4 (by decide) (fun hc => ?_) (fun hc => ?_)
  · replace h := h.1 hc
    exact wX5_remainder_21 hg X hr _ h H locs ls hw hS (lv_sub hl [0, 1, 2, 3] rfl)
  · replace h := h.2 hc
    refine lv_iload_n hx hb dX5_remainder_7 rfl (lv_at hl 2 rfl) ?_
    refine m_cSi (TT := rT g) (As := [.int x2]) (rest := []) X hl.1 hw hS (kX5_isRegister hg h) mw_113 fX5_isRegister ⟨rfl, rfl, Nat.le_of_ble_eq_true rfl, Nat.le_of_ble_eq_true rfl⟩ rfl rfl (Nat.le_of_ble_eq_true rfl) dX5_remainder_8 (fun r3 σ4 H locs h hw hS => ?_)
    refine lv_if_eq (tgt := 21) hx hb dX5_remainder_11 (by decide) (fun hc => ?_) (fun hc => ?_)
    · replace h := h.1 hc
      exact wX5_remainder_21 hg X hr _ h H locs ls hw hS (lv_sub hl [0, 1, 2, 3] rfl)
    · replace h := h.2 hc
      refine lv_iload_n hx hb dX5_remainder_14 rfl (lv_at hl 3 rfl) ?_
      refine m_cSi (TT := rT g) (As := [.int x3]) (rest := []) X hl.1 hw hS (kX5_isRegister hg h) mw_113 fX5_isRegister ⟨rfl, rfl, Nat.le_of_ble_eq_true rfl, Nat.le_of_ble_eq_true rfl⟩ rfl rfl (Nat.le_of_ble_eq_true rfl) dX5_remainder_15 (fun r5 σ6 H locs h hw hS => ?_)
      refine lv_if_ne (tgt := 23) hx hb dX5_remainder_18 (by decide) (fun hc => ?_) (fun hc => ?_)
      · replace h := h.1 hc
        refine lv_aload_n hx hb dX5_remainder_23 rfl (lv_at hl 0 rfl) ?_
        refine m_get (v := .ref (g.1 5004)) X hw qM rfl inA_X5 3 (by decide) mw_80 rfl dX5_remainder_24 ?_
        refine lv_iload_n hx hb dX5_remainder_27 rfl (lv_at hl 3 rfl) ?_
        obtain ⟨hi, h⟩ := h
        refine m_iald X hw qD 0 rfl hi dX5_remainder_28 ?_
        refine lv_if_ge (tgt := 34) hx hb dX5_remainder_29 (by decide) (fun hc => ?_) (fun hc => ?_)
        · replace h := h.1 hc
          refine lv_aload_n hx hb dX5_remainder_34 rfl (lv_at hl 0 rfl) ?_
          refine lv_iload_n hx hb dX5_remainder_35 rfl (lv_at hl 2 rfl) ?_
          refine lv_bipush (v := (18 : Int32)) hx hb dX5_remainder_36 (by decide) ?_
          refine m_cVv (TT := rT g) (As := [.int x2, .int (18 : Int32)]) (rest := []) X hl.1 hw hS (kX5_copyAll hg h) mw_239 fX5_copyAll qM rfl rfl ⟨rfl, rfl, Nat.le_of_ble_eq_true rfl, Nat.le_of_ble_eq_true rfl⟩ rfl rfl (Nat.le_of_ble_eq_true rfl) dX5_remainder_38 (fun σ8 H locs h hw hS => ?_)
          refine lv_aload_n hx hb dX5_remainder_41 rfl (lv_at hl 0 rfl) ?_
          refine lv_iload_n hx hb dX5_remainder_42 rfl (lv_at hl 3 rfl) ?_
          refine lv_bipush (v := (19 : Int32)) hx hb dX5_remainder_43 (by decide) ?_
          refine m_cVv (TT := rT g) (As := [.int x3, .int (19 : Int32)]) (rest := []) X hl.1 hw hS (kX5_copyAll hg h) mw_239 fX5_copyAll qM rfl rfl ⟨rfl, rfl, Nat.le_of_ble_eq_true rfl, Nat.le_of_ble_eq_true rfl⟩ rfl rfl (Nat.le_of_ble_eq_true rfl) dX5_remainder_45 (fun σ10 H locs h hw hS => ?_)
          refine lv_aload_n hx hb dX5_remainder_48 rfl (lv_at hl 0 rfl) ?_
          refine lv_iconst (v := (0 : Int32)) hx hb dX5_remainder_49 (by decide) ?_
          refine m_cVv (TT := rT g) (As := [.int (0 : Int32)]) (rest := []) X hl.1 hw hS (kX5_remain hg h) mw_344 fX5_remain qM rfl rfl ⟨rfl, rfl, Nat.le_of_ble_eq_true rfl, Nat.le_of_ble_eq_true rfl⟩ rfl rfl (Nat.le_of_ble_eq_true rfl) dX5_remainder_50 (fun σ12 H locs h hw hS => ?_)
          refine lv_aload_n hx hb dX5_remainder_53 rfl (lv_at hl 0 rfl) ?_
          refine lv_iload_n hx hb dX5_remainder_54 rfl (lv_at hl 1 rfl) ?_
          refine lv_bipush (v := (20 : Int32)) hx hb dX5_remainder_55 (by decide) ?_
          refine m_cVi (TT := rT g) (As := [.int x1, .int (20 : Int32)]) (rest := []) X hl.1 hw hS (kX5_result hg h) mw_231 fX5_result qM rfl rfl ⟨rfl, rfl, Nat.le_of_ble_eq_true rfl, Nat.le_of_ble_eq_true rfl⟩ rfl rfl (Nat.le_of_ble_eq_true rfl) dX5_remainder_57 (fun r13 σ14 H locs h hw hS => ?_)
          exact m_iret X hr hw hS h dX5_remainder_60
        · replace h := h.2 hc
          refine lv_iconst (v := (2 : Int32)) hx hb dX5_remainder_32 (by decide) ?_
          exact m_iret X hr hw hS h dX5_remainder_33
      · replace h := h.2 hc
        exact wX5_remainder_21 hg X hr _ h H locs ls hw hS (lv_sub hl [0, 1, 2, 3] rfl)
def wpX5_remainder (x1 : Int32) (x2 : Int32) (x3 : Int32) (σ : RS) (Q : Int32 → RS → Prop) : Prop := wpX5_remainder_0 x1 x2 x3 Q σ
theorem kX5_remainder {l : Launch} {D : va_G} {A : Nat → Prop} {g : mG} (hg : inj g) {x1 : Int32} {x2 : Int32} {x3 : Int32} {σ : RS} {Q : Int32 → RS → Prop} (h : wpX5_remainder x1 x2 x3 σ Q) : Met l yX5_remainder (Cond.code yX5_remainder cX5_remainder 4 (some .int) :: wsA) rmX5_remainder (mPc D (tyG g) A (rT g σ) [.ref (g.1 5000), .int x1, .int x2, .int x3]) (va_Qi Q (fun u t => wd D A (rT g u) t.heap) A) 0 0 A :=
  m_met (by decide +kernel) (Nat.le_of_ble_eq_true rfl) (fun p e s m below meth c X hr H locs ls hw hS hl => wX5_remainder_0 hg X hr σ h H locs ls hw hS (lv_sub hl [0, 1, 2, 3] rfl))
theorem fX5_remainder : vfit yX5_remainder cX5_remainder 4 (some .int) 3 := ⟨mw_341, mw_342, mw_5, mw_343, by decide +kernel, by decide +kernel, by decide +kernel⟩
/-! BigPolysModel.quotient(III)I -/
def rmX5_quotient : Room := { frames := 4, cells := 0, slots := 0, locals := 110 }
def wpX5_quotient_21 (x1 : Int32) (x2 : Int32) (x3 : Int32) (Q : Int32 → RS → Prop) (σ : RS) : Prop :=
  Q (1 : Int32) σ
set_option maxRecDepth 100000 in
set_option maxHeartbeats 4000000 in
theorem wX5_quotient_21 {p : Program} {l : Launch} {e : Env} {s : State} {m : MethodId} {args : Array Value} {below : List Frame} {meth : Method} {c : Code} {D : va_G} {A : Nat → Prop} {g : mG} (hg : inj g) {x1 : Int32} {x2 : Int32} {x3 : Int32} (X : cx p m meth c s args cX5_quotient 4 RX5 D (tyG g)) (hr : meth.sig.returnType = (some .int)) {Q : Int32 → RS → Prop} : ∀ (σ : RS), wpX5_quotient_21 x1 x2 x3 Q σ → cW p l e rmX5_quotient s m args below meth c (MQ below (va_Qi Q (fun u t => wd D A (rT g u) t.heap) A) args s 0 0 A) D A (rT g σ) 21 4 [(0, .ref (g.1 5000)), (1, .int x1), (2, .int x2), (3, .int x3)] := by
  obtain ⟨hx, hb, hml, hown, hts, hK, hlk⟩ := id X
  intro σ h H locs ls hw hS hl
  unfold wpX5_quotient_21 at h
  refine lv_iconst (v := (1 : Int32)) hx hb dX5_quotient_21 (by decide) ?_
  exact m_iret X hr hw hS h dX5_quotient_22
def wpX5_quotient_0 (x1 : Int32) (x2 : Int32) (x3 : Int32) (Q : Int32 → RS → Prop) (σ : RS) : Prop :=
  wpX5_isRegister x1 σ (fun (r1 : Int32) (σ2 : RS) =>
    (r1 = 0 →
      wpX5_quotient_21 x1 x2 x3 Q σ2) ∧
    (¬ r1 = 0 →
      wpX5_isRegister x2 σ2 (fun (r3 : Int32) (σ4 : RS) =>
        (r3 = 0 →
          wpX5_quotient_21 x1 x2 x3 Q σ4) ∧
        (¬ r3 = 0 →
          wpX5_isRegister x3 σ4 (fun (r5 : Int32) (σ6 : RS) =>
            (¬ r5 = 0 →
              vp_in x3 24 ∧ (
              (0 ≤ (rD σ6 x3.toNatClampNeg) →
                wpX5_copyAll x2 (18 : Int32) σ6 (fun (σ8 : RS) =>
                  wpX5_copyAll x3 (19 : Int32) σ8 (fun (σ10 : RS) =>
                    wpX5_over σ10 (fun (r11 : Int32) (σ12 : RS) =>
                      (r11 = 0 →
                        Q (2 : Int32) σ12) ∧
                      (¬ r11 = 0 →
                        wpX5_result x1 (21 : Int32) σ12 (fun (r13 : Int32) (σ14 : RS) =>
                          Q r13 σ14)))))) ∧
              (¬ 0 ≤ (rD σ6 x3.toNatClampNeg) →
                Q (2 : Int32) σ6))) ∧
            (r5 = 0 →
              wpX5_quotient_21 x1 x2 x3 Q σ6))))))
set_option maxRecDepth 100000 in
set_option maxHeartbeats 4000000 in
theorem wX5_quotient_0 {p : Program} {l : Launch} {e : Env} {s : State} {m : MethodId} {args : Array Value} {below : List Frame} {meth : Method} {c : Code} {D : va_G} {A : Nat → Prop} {g : mG} (hg : inj g) {x1 : Int32} {x2 : Int32} {x3 : Int32} (X : cx p m meth c s args cX5_quotient 4 RX5 D (tyG g)) (hr : meth.sig.returnType = (some .int)) {Q : Int32 → RS → Prop} : ∀ (σ : RS), wpX5_quotient_0 x1 x2 x3 Q σ → cW p l e rmX5_quotient s m args below meth c (MQ below (va_Qi Q (fun u t => wd D A (rT g u) t.heap) A) args s 0 0 A) D A (rT g σ) 0 4 [(0, .ref (g.1 5000)), (1, .int x1), (2, .int x2), (3, .int x3)] := by
  obtain ⟨hx, hb, hml, hown, hts, hK, hlk⟩ := id X
  intro σ h H locs ls hw hS hl
  unfold wpX5_quotient_0 at h
  refine lv_iload_n hx hb dX5_quotient_0 rfl (lv_at hl 1 rfl) ?_
  refine m_cSi (TT := rT g) (As := [.int x1]) (rest := []) X hl.1 hw hS (kX5_isRegister hg h) mw_113 fX5_isRegister ⟨rfl, rfl, Nat.le_of_ble_eq_true rfl, Nat.le_of_ble_eq_true rfl⟩ rfl rfl (Nat.le_of_ble_eq_true rfl) dX5_quotient_1 (fun r1 σ2 H locs h hw hS => ?_)
  refine lv_if_eq (tgt := 21) hx hb dX5_quotient_4 (by decide) (fun hc => ?_) (fun hc => ?_)
  · replace h := h.1 hc
    exact wX5_quotient_21 hg X hr _ h H locs ls hw hS (lv_sub hl [0, 1, 2, 3] rfl)
  · replace h := h.2 hc
    refine lv_iload_n hx hb dX5_quotient_7 rfl (lv_at hl 2 rfl) ?_
    refine m_cSi (TT := rT g) (As := [.int x2]) (rest := []) X hl.1 hw hS (kX5_isRegister hg h) mw_113 fX5_isRegister ⟨rfl, rfl, Nat.le_of_ble_eq_true rfl, Nat.le_of_ble_eq_true rfl⟩ rfl rfl (Nat.le_of_ble_eq_true rfl) dX5_quotient_8 (fun r3 σ4 H locs h hw hS => ?_)
    refine lv_if_eq (tgt := 21) hx hb dX5_quotient_11 (by decide) (fun hc => ?_) (fun hc => ?_)
    · replace h := h.1 hc
      exact wX5_quotient_21 hg X hr _ h H locs ls hw hS (lv_sub hl [0, 1, 2, 3] rfl)
    · replace h := h.2 hc
      refine lv_iload_n hx hb dX5_quotient_14 rfl (lv_at hl 3 rfl) ?_
      refine m_cSi (TT := rT g) (As := [.int x3]) (rest := []) X hl.1 hw hS (kX5_isRegister hg h) mw_113 fX5_isRegister ⟨rfl, rfl, Nat.le_of_ble_eq_true rfl, Nat.le_of_ble_eq_true rfl⟩ rfl rfl (Nat.le_of_ble_eq_true rfl) dX5_quotient_15 (fun r5 σ6 H locs h hw hS => ?_)
      refine lv_if_ne (tgt := 23) hx hb dX5_quotient_18 (by decide) (fun hc => ?_) (fun hc => ?_)
      · replace h := h.1 hc
        refine lv_aload_n hx hb dX5_quotient_23 rfl (lv_at hl 0 rfl) ?_
        refine m_get (v := .ref (g.1 5004)) X hw qM rfl inA_X5 3 (by decide) mw_80 rfl dX5_quotient_24 ?_
        refine lv_iload_n hx hb dX5_quotient_27 rfl (lv_at hl 3 rfl) ?_
        obtain ⟨hi, h⟩ := h
        refine m_iald X hw qD 0 rfl hi dX5_quotient_28 ?_
        refine lv_if_ge (tgt := 34) hx hb dX5_quotient_29 (by decide) (fun hc => ?_) (fun hc => ?_)
        · replace h := h.1 hc
          refine lv_aload_n hx hb dX5_quotient_34 rfl (lv_at hl 0 rfl) ?_
          refine lv_iload_n hx hb dX5_quotient_35 rfl (lv_at hl 2 rfl) ?_
          refine lv_bipush (v := (18 : Int32)) hx hb dX5_quotient_36 (by decide) ?_
          refine m_cVv (TT := rT g) (As := [.int x2, .int (18 : Int32)]) (rest := []) X hl.1 hw hS (kX5_copyAll hg h) mw_239 fX5_copyAll qM rfl rfl ⟨rfl, rfl, Nat.le_of_ble_eq_true rfl, Nat.le_of_ble_eq_true rfl⟩ rfl rfl (Nat.le_of_ble_eq_true rfl) dX5_quotient_38 (fun σ8 H locs h hw hS => ?_)
          refine lv_aload_n hx hb dX5_quotient_41 rfl (lv_at hl 0 rfl) ?_
          refine lv_iload_n hx hb dX5_quotient_42 rfl (lv_at hl 3 rfl) ?_
          refine lv_bipush (v := (19 : Int32)) hx hb dX5_quotient_43 (by decide) ?_
          refine m_cVv (TT := rT g) (As := [.int x3, .int (19 : Int32)]) (rest := []) X hl.1 hw hS (kX5_copyAll hg h) mw_239 fX5_copyAll qM rfl rfl ⟨rfl, rfl, Nat.le_of_ble_eq_true rfl, Nat.le_of_ble_eq_true rfl⟩ rfl rfl (Nat.le_of_ble_eq_true rfl) dX5_quotient_45 (fun σ10 H locs h hw hS => ?_)
          refine lv_aload_n hx hb dX5_quotient_48 rfl (lv_at hl 0 rfl) ?_
          refine m_cVi (TT := rT g) (As := []) (rest := []) X hl.1 hw hS (kX5_over hg h) mw_387 fX5_over qM rfl rfl ⟨rfl, rfl, Nat.le_of_ble_eq_true rfl, Nat.le_of_ble_eq_true rfl⟩ rfl rfl (Nat.le_of_ble_eq_true rfl) dX5_quotient_49 (fun r11 σ12 H locs h hw hS => ?_)
          refine lv_if_eq (tgt := 65) hx hb dX5_quotient_52 (by decide) (fun hc => ?_) (fun hc => ?_)
          · replace h := h.1 hc
            refine lv_iconst (v := (2 : Int32)) hx hb dX5_quotient_65 (by decide) ?_
            exact m_iret X hr hw hS h dX5_quotient_66
          · replace h := h.2 hc
            refine lv_aload_n hx hb dX5_quotient_55 rfl (lv_at hl 0 rfl) ?_
            refine lv_iload_n hx hb dX5_quotient_56 rfl (lv_at hl 1 rfl) ?_
            refine lv_bipush (v := (21 : Int32)) hx hb dX5_quotient_57 (by decide) ?_
            refine m_cVi (TT := rT g) (As := [.int x1, .int (21 : Int32)]) (rest := []) X hl.1 hw hS (kX5_result hg h) mw_231 fX5_result qM rfl rfl ⟨rfl, rfl, Nat.le_of_ble_eq_true rfl, Nat.le_of_ble_eq_true rfl⟩ rfl rfl (Nat.le_of_ble_eq_true rfl) dX5_quotient_59 (fun r13 σ14 H locs h hw hS => ?_)
            refine lv_goto (tgt := 66) hx hb dX5_quotient_62 (by decide) ?_
            exact m_iret X hr hw hS h dX5_quotient_66
        · replace h := h.2 hc
          refine lv_iconst (v := (2 : Int32)) hx hb dX5_quotient_32 (by decide) ?_
          exact m_iret X hr hw hS h dX5_quotient_33
      · replace h := h.2 hc
        exact wX5_quotient_21 hg X hr _ h H locs ls hw hS (lv_sub hl [0, 1, 2, 3] rfl)
def wpX5_quotient (x1 : Int32) (x2 : Int32) (x3 : Int32) (σ : RS) (Q : Int32 → RS → Prop) : Prop := wpX5_quotient_0 x1 x2 x3 Q σ
theorem kX5_quotient {l : Launch} {D : va_G} {A : Nat → Prop} {g : mG} (hg : inj g) {x1 : Int32} {x2 : Int32} {x3 : Int32} {σ : RS} {Q : Int32 → RS → Prop} (h : wpX5_quotient x1 x2 x3 σ Q) : Met l yX5_quotient (Cond.code yX5_quotient cX5_quotient 4 (some .int) :: wsA) rmX5_quotient (mPc D (tyG g) A (rT g σ) [.ref (g.1 5000), .int x1, .int x2, .int x3]) (va_Qi Q (fun u t => wd D A (rT g u) t.heap) A) 0 0 A :=
  m_met (by decide +kernel) (Nat.le_of_ble_eq_true rfl) (fun p e s m below meth c X hr H locs ls hw hS hl => wX5_quotient_0 hg X hr σ h H locs ls hw hS (lv_sub hl [0, 1, 2, 3] rfl))
theorem fX5_quotient : vfit yX5_quotient cX5_quotient 4 (some .int) 3 := ⟨mw_384, mw_385, mw_5, mw_386, by decide +kernel, by decide +kernel, by decide +kernel⟩
/-! BigPolysModel.gcd(III)I -/
def rmX5_gcd : Room := { frames := 6, cells := 0, slots := 0, locals := 157 }
def wpX5_gcd_21 (x1 : Int32) (x2 : Int32) (x3 : Int32) (Q : Int32 → RS → Prop) (σ : RS) : Prop :=
  Q (1 : Int32) σ
set_option maxRecDepth 100000 in
set_option maxHeartbeats 4000000 in
theorem wX5_gcd_21 {p : Program} {l : Launch} {e : Env} {s : State} {m : MethodId} {args : Array Value} {below : List Frame} {meth : Method} {c : Code} {D : va_G} {A : Nat → Prop} {g : mG} (hg : inj g) {x1 : Int32} {x2 : Int32} {x3 : Int32} (X : cx p m meth c s args cX5_gcd 4 RX5 D (tyG g)) (hr : meth.sig.returnType = (some .int)) {Q : Int32 → RS → Prop} : ∀ (σ : RS), wpX5_gcd_21 x1 x2 x3 Q σ → cW p l e rmX5_gcd s m args below meth c (MQ below (va_Qi Q (fun u t => wd D A (rT g u) t.heap) A) args s 0 0 A) D A (rT g σ) 21 4 [(0, .ref (g.1 5000)), (1, .int x1), (2, .int x2), (3, .int x3)] := by
  obtain ⟨hx, hb, hml, hown, hts, hK, hlk⟩ := id X
  intro σ h H locs ls hw hS hl
  unfold wpX5_gcd_21 at h
  refine lv_iconst (v := (1 : Int32)) hx hb dX5_gcd_21 (by decide) ?_
  exact m_iret X hr hw hS h dX5_gcd_22
def wpX5_gcd_0 (x1 : Int32) (x2 : Int32) (x3 : Int32) (Q : Int32 → RS → Prop) (σ : RS) : Prop :=
  wpX5_isRegister x1 σ (fun (r1 : Int32) (σ2 : RS) =>
    (r1 = 0 →
      wpX5_gcd_21 x1 x2 x3 Q σ2) ∧
    (¬ r1 = 0 →
      wpX5_isRegister x2 σ2 (fun (r3 : Int32) (σ4 : RS) =>
        (r3 = 0 →
          wpX5_gcd_21 x1 x2 x3 Q σ4) ∧
        (¬ r3 = 0 →
          wpX5_isRegister x3 σ4 (fun (r5 : Int32) (σ6 : RS) =>
            (¬ r5 = 0 →
              wpX5_copyAll x2 (18 : Int32) σ6 (fun (σ8 : RS) =>
                wpX5_copyAll x3 (19 : Int32) σ8 (fun (σ10 : RS) =>
                  wpX5_divisor σ10 (fun (σ12 : RS) =>
                    wpX5_result x1 (18 : Int32) σ12 (fun (r13 : Int32) (σ14 : RS) =>
                      Q r13 σ14))))) ∧
            (r5 = 0 →
              wpX5_gcd_21 x1 x2 x3 Q σ6))))))
set_option maxRecDepth 100000 in
set_option maxHeartbeats 4000000 in
theorem wX5_gcd_0 {p : Program} {l : Launch} {e : Env} {s : State} {m : MethodId} {args : Array Value} {below : List Frame} {meth : Method} {c : Code} {D : va_G} {A : Nat → Prop} {g : mG} (hg : inj g) {x1 : Int32} {x2 : Int32} {x3 : Int32} (X : cx p m meth c s args cX5_gcd 4 RX5 D (tyG g)) (hr : meth.sig.returnType = (some .int)) {Q : Int32 → RS → Prop} : ∀ (σ : RS), wpX5_gcd_0 x1 x2 x3 Q σ → cW p l e rmX5_gcd s m args below meth c (MQ below (va_Qi Q (fun u t => wd D A (rT g u) t.heap) A) args s 0 0 A) D A (rT g σ) 0 4 [(0, .ref (g.1 5000)), (1, .int x1), (2, .int x2), (3, .int x3)] := by
  obtain ⟨hx, hb, hml, hown, hts, hK, hlk⟩ := id X
  intro σ h H locs ls hw hS hl
  unfold wpX5_gcd_0 at h
  refine lv_iload_n hx hb dX5_gcd_0 rfl (lv_at hl 1 rfl) ?_
  refine m_cSi (TT := rT g) (As := [.int x1]) (rest := []) X hl.1 hw hS (kX5_isRegister hg h) mw_113 fX5_isRegister ⟨rfl, rfl, Nat.le_of_ble_eq_true rfl, Nat.le_of_ble_eq_true rfl⟩ rfl rfl (Nat.le_of_ble_eq_true rfl) dX5_gcd_1 (fun r1 σ2 H locs h hw hS => ?_)
  refine lv_if_eq (tgt := 21) hx hb dX5_gcd_4 (by decide) (fun hc => ?_) (fun hc => ?_)
  · replace h := h.1 hc
    exact wX5_gcd_21 hg X hr _ h H locs ls hw hS (lv_sub hl [0, 1, 2, 3] rfl)
  · replace h := h.2 hc
    refine lv_iload_n hx hb dX5_gcd_7 rfl (lv_at hl 2 rfl) ?_
    refine m_cSi (TT := rT g) (As := [.int x2]) (rest := []) X hl.1 hw hS (kX5_isRegister hg h) mw_113 fX5_isRegister ⟨rfl, rfl, Nat.le_of_ble_eq_true rfl, Nat.le_of_ble_eq_true rfl⟩ rfl rfl (Nat.le_of_ble_eq_true rfl) dX5_gcd_8 (fun r3 σ4 H locs h hw hS => ?_)
    refine lv_if_eq (tgt := 21) hx hb dX5_gcd_11 (by decide) (fun hc => ?_) (fun hc => ?_)
    · replace h := h.1 hc
      exact wX5_gcd_21 hg X hr _ h H locs ls hw hS (lv_sub hl [0, 1, 2, 3] rfl)
    · replace h := h.2 hc
      refine lv_iload_n hx hb dX5_gcd_14 rfl (lv_at hl 3 rfl) ?_
      refine m_cSi (TT := rT g) (As := [.int x3]) (rest := []) X hl.1 hw hS (kX5_isRegister hg h) mw_113 fX5_isRegister ⟨rfl, rfl, Nat.le_of_ble_eq_true rfl, Nat.le_of_ble_eq_true rfl⟩ rfl rfl (Nat.le_of_ble_eq_true rfl) dX5_gcd_15 (fun r5 σ6 H locs h hw hS => ?_)
      refine lv_if_ne (tgt := 23) hx hb dX5_gcd_18 (by decide) (fun hc => ?_) (fun hc => ?_)
      · replace h := h.1 hc
        refine lv_aload_n hx hb dX5_gcd_23 rfl (lv_at hl 0 rfl) ?_
        refine lv_iload_n hx hb dX5_gcd_24 rfl (lv_at hl 2 rfl) ?_
        refine lv_bipush (v := (18 : Int32)) hx hb dX5_gcd_25 (by decide) ?_
        refine m_cVv (TT := rT g) (As := [.int x2, .int (18 : Int32)]) (rest := []) X hl.1 hw hS (kX5_copyAll hg h) mw_239 fX5_copyAll qM rfl rfl ⟨rfl, rfl, Nat.le_of_ble_eq_true rfl, Nat.le_of_ble_eq_true rfl⟩ rfl rfl (Nat.le_of_ble_eq_true rfl) dX5_gcd_27 (fun σ8 H locs h hw hS => ?_)
        refine lv_aload_n hx hb dX5_gcd_30 rfl (lv_at hl 0 rfl) ?_
        refine lv_iload_n hx hb dX5_gcd_31 rfl (lv_at hl 3 rfl) ?_
        refine lv_bipush (v := (19 : Int32)) hx hb dX5_gcd_32 (by decide) ?_
        refine m_cVv (TT := rT g) (As := [.int x3, .int (19 : Int32)]) (rest := []) X hl.1 hw hS (kX5_copyAll hg h) mw_239 fX5_copyAll qM rfl rfl ⟨rfl, rfl, Nat.le_of_ble_eq_true rfl, Nat.le_of_ble_eq_true rfl⟩ rfl rfl (Nat.le_of_ble_eq_true rfl) dX5_gcd_34 (fun σ10 H locs h hw hS => ?_)
        refine lv_aload_n hx hb dX5_gcd_37 rfl (lv_at hl 0 rfl) ?_
        refine m_cVv (TT := rT g) (As := []) (rest := []) X hl.1 hw hS (kX5_divisor hg h) mw_468 fX5_divisor qM rfl rfl ⟨rfl, rfl, Nat.le_of_ble_eq_true rfl, Nat.le_of_ble_eq_true rfl⟩ rfl rfl (Nat.le_of_ble_eq_true rfl) dX5_gcd_38 (fun σ12 H locs h hw hS => ?_)
        refine lv_aload_n hx hb dX5_gcd_41 rfl (lv_at hl 0 rfl) ?_
        refine lv_iload_n hx hb dX5_gcd_42 rfl (lv_at hl 1 rfl) ?_
        refine lv_bipush (v := (18 : Int32)) hx hb dX5_gcd_43 (by decide) ?_
        refine m_cVi (TT := rT g) (As := [.int x1, .int (18 : Int32)]) (rest := []) X hl.1 hw hS (kX5_result hg h) mw_231 fX5_result qM rfl rfl ⟨rfl, rfl, Nat.le_of_ble_eq_true rfl, Nat.le_of_ble_eq_true rfl⟩ rfl rfl (Nat.le_of_ble_eq_true rfl) dX5_gcd_45 (fun r13 σ14 H locs h hw hS => ?_)
        exact m_iret X hr hw hS h dX5_gcd_48
      · replace h := h.2 hc
        exact wX5_gcd_21 hg X hr _ h H locs ls hw hS (lv_sub hl [0, 1, 2, 3] rfl)
def wpX5_gcd (x1 : Int32) (x2 : Int32) (x3 : Int32) (σ : RS) (Q : Int32 → RS → Prop) : Prop := wpX5_gcd_0 x1 x2 x3 Q σ
theorem kX5_gcd {l : Launch} {D : va_G} {A : Nat → Prop} {g : mG} (hg : inj g) {x1 : Int32} {x2 : Int32} {x3 : Int32} {σ : RS} {Q : Int32 → RS → Prop} (h : wpX5_gcd x1 x2 x3 σ Q) : Met l yX5_gcd (Cond.code yX5_gcd cX5_gcd 4 (some .int) :: wsA) rmX5_gcd (mPc D (tyG g) A (rT g σ) [.ref (g.1 5000), .int x1, .int x2, .int x3]) (va_Qi Q (fun u t => wd D A (rT g u) t.heap) A) 0 0 A :=
  m_met (by decide +kernel) (Nat.le_of_ble_eq_true rfl) (fun p e s m below meth c X hr H locs ls hw hS hl => wX5_gcd_0 hg X hr σ h H locs ls hw hS (lv_sub hl [0, 1, 2, 3] rfl))
theorem fX5_gcd : vfit yX5_gcd cX5_gcd 4 (some .int) 3 := ⟨mw_465, mw_466, mw_5, mw_467, by decide +kernel, by decide +kernel, by decide +kernel⟩
/-! BigPolysModel.once(II)I -/
def rmX5_once : Room := { frames := 7, cells := 0, slots := 0, locals := 178 }
def wpX5_once_14 (x1 : Int32) (x2 : Int32) (Q : Int32 → RS → Prop) (σ : RS) : Prop :=
  Q (1 : Int32) σ
set_option maxRecDepth 100000 in
set_option maxHeartbeats 4000000 in
theorem wX5_once_14 {p : Program} {l : Launch} {e : Env} {s : State} {m : MethodId} {args : Array Value} {below : List Frame} {meth : Method} {c : Code} {D : va_G} {A : Nat → Prop} {g : mG} (hg : inj g) {x1 : Int32} {x2 : Int32} (X : cx p m meth c s args cX5_once 3 RX5 D (tyG g)) (hr : meth.sig.returnType = (some .int)) {Q : Int32 → RS → Prop} : ∀ (σ : RS), wpX5_once_14 x1 x2 Q σ → cW p l e rmX5_once s m args below meth c (MQ below (va_Qi Q (fun u t => wd D A (rT g u) t.heap) A) args s 0 0 A) D A (rT g σ) 14 3 [(0, .ref (g.1 5000)), (1, .int x1), (2, .int x2)] := by
  obtain ⟨hx, hb, hml, hown, hts, hK, hlk⟩ := id X
  intro σ h H locs ls hw hS hl
  unfold wpX5_once_14 at h
  refine lv_iconst (v := (1 : Int32)) hx hb dX5_once_14 (by decide) ?_
  exact m_iret X hr hw hS h dX5_once_15
def wpX5_once_0 (x1 : Int32) (x2 : Int32) (Q : Int32 → RS → Prop) (σ : RS) : Prop :=
  wpX5_isRegister x1 σ (fun (r1 : Int32) (σ2 : RS) =>
    (r1 = 0 →
      wpX5_once_14 x1 x2 Q σ2) ∧
    (¬ r1 = 0 →
      wpX5_isRegister x2 σ2 (fun (r3 : Int32) (σ4 : RS) =>
        (¬ r3 = 0 →
          vp_in x2 24 ∧ (
          (0 ≤ (rD σ4 x2.toNatClampNeg) →
            wpX5_onceOf x2 σ4 (fun (σ6 : RS) =>
              wpX5_result x1 (21 : Int32) σ6 (fun (r7 : Int32) (σ8 : RS) =>
                Q r7 σ8))) ∧
          (¬ 0 ≤ (rD σ4 x2.toNatClampNeg) →
            Q (2 : Int32) σ4))) ∧
        (r3 = 0 →
          wpX5_once_14 x1 x2 Q σ4))))
set_option maxRecDepth 100000 in
set_option maxHeartbeats 4000000 in
theorem wX5_once_0 {p : Program} {l : Launch} {e : Env} {s : State} {m : MethodId} {args : Array Value} {below : List Frame} {meth : Method} {c : Code} {D : va_G} {A : Nat → Prop} {g : mG} (hg : inj g) {x1 : Int32} {x2 : Int32} (X : cx p m meth c s args cX5_once 3 RX5 D (tyG g)) (hr : meth.sig.returnType = (some .int)) {Q : Int32 → RS → Prop} : ∀ (σ : RS), wpX5_once_0 x1 x2 Q σ → cW p l e rmX5_once s m args below meth c (MQ below (va_Qi Q (fun u t => wd D A (rT g u) t.heap) A) args s 0 0 A) D A (rT g σ) 0 3 [(0, .ref (g.1 5000)), (1, .int x1), (2, .int x2)] := by
  obtain ⟨hx, hb, hml, hown, hts, hK, hlk⟩ := id X
  intro σ h H locs ls hw hS hl
  unfold wpX5_once_0 at h
  refine lv_iload_n hx hb dX5_once_0 rfl (lv_at hl 1 rfl) ?_
  refine m_cSi (TT := rT g) (As := [.int x1]) (rest := []) X hl.1 hw hS (kX5_isRegister hg h) mw_113 fX5_isRegister ⟨rfl, rfl, Nat.le_of_ble_eq_true rfl, Nat.le_of_ble_eq_true rfl⟩ rfl rfl (Nat.le_of_ble_eq_true rfl) dX5_once_1 (fun r1 σ2 H locs h hw hS => ?_)
  refine lv_if_eq (tgt := 14) hx hb dX5_once_4 (by decide) (fun hc => ?_) (fun hc => ?_)
  · replace h := h.1 hc
    exact wX5_once_14 hg X hr _ h H locs ls hw hS (lv_sub hl [0, 1, 2] rfl)
  · replace h := h.2 hc
    refine lv_iload_n hx hb dX5_once_7 rfl (lv_at hl 2 rfl) ?_
    refine m_cSi (TT := rT g) (As := [.int x2]) (rest := []) X hl.1 hw hS (kX5_isRegister hg h) mw_113 fX5_isRegister ⟨rfl, rfl, Nat.le_of_ble_eq_true rfl, Nat.le_of_ble_eq_true rfl⟩ rfl rfl (Nat.le_of_ble_eq_true rfl) dX5_once_8 (fun r3 σ4 H locs h hw hS => ?_)
    refine lv_if_ne (tgt := 16) hx hb dX5_once_11 (by decide) (fun hc => ?_) (fun hc => ?_)
    · replace h := h.1 hc
      refine lv_aload_n hx hb dX5_once_16 rfl (lv_at hl 0 rfl) ?_
      refine m_get (v := .ref (g.1 5004)) X hw qM rfl inA_X5 3 (by decide) mw_80 rfl dX5_once_17 ?_
      refine lv_iload_n hx hb dX5_once_20 rfl (lv_at hl 2 rfl) ?_
      obtain ⟨hi, h⟩ := h
      refine m_iald X hw qD 0 rfl hi dX5_once_21 ?_
      refine lv_if_ge (tgt := 27) hx hb dX5_once_22 (by decide) (fun hc => ?_) (fun hc => ?_)
      · replace h := h.1 hc
        refine lv_aload_n hx hb dX5_once_27 rfl (lv_at hl 0 rfl) ?_
        refine lv_iload_n hx hb dX5_once_28 rfl (lv_at hl 2 rfl) ?_
        refine m_cVv (TT := rT g) (As := [.int x2]) (rest := []) X hl.1 hw hS (kX5_onceOf hg h) mw_498 fX5_onceOf qM rfl rfl ⟨rfl, rfl, Nat.le_of_ble_eq_true rfl, Nat.le_of_ble_eq_true rfl⟩ rfl rfl (Nat.le_of_ble_eq_true rfl) dX5_once_29 (fun σ6 H locs h hw hS => ?_)
        refine lv_aload_n hx hb dX5_once_32 rfl (lv_at hl 0 rfl) ?_
        refine lv_iload_n hx hb dX5_once_33 rfl (lv_at hl 1 rfl) ?_
        refine lv_bipush (v := (21 : Int32)) hx hb dX5_once_34 (by decide) ?_
        refine m_cVi (TT := rT g) (As := [.int x1, .int (21 : Int32)]) (rest := []) X hl.1 hw hS (kX5_result hg h) mw_231 fX5_result qM rfl rfl ⟨rfl, rfl, Nat.le_of_ble_eq_true rfl, Nat.le_of_ble_eq_true rfl⟩ rfl rfl (Nat.le_of_ble_eq_true rfl) dX5_once_36 (fun r7 σ8 H locs h hw hS => ?_)
        exact m_iret X hr hw hS h dX5_once_39
      · replace h := h.2 hc
        refine lv_iconst (v := (2 : Int32)) hx hb dX5_once_25 (by decide) ?_
        exact m_iret X hr hw hS h dX5_once_26
    · replace h := h.2 hc
      exact wX5_once_14 hg X hr _ h H locs ls hw hS (lv_sub hl [0, 1, 2] rfl)
def wpX5_once (x1 : Int32) (x2 : Int32) (σ : RS) (Q : Int32 → RS → Prop) : Prop := wpX5_once_0 x1 x2 Q σ
theorem kX5_once {l : Launch} {D : va_G} {A : Nat → Prop} {g : mG} (hg : inj g) {x1 : Int32} {x2 : Int32} {σ : RS} {Q : Int32 → RS → Prop} (h : wpX5_once x1 x2 σ Q) : Met l yX5_once (Cond.code yX5_once cX5_once 3 (some .int) :: wsA) rmX5_once (mPc D (tyG g) A (rT g σ) [.ref (g.1 5000), .int x1, .int x2]) (va_Qi Q (fun u t => wd D A (rT g u) t.heap) A) 0 0 A :=
  m_met (by decide +kernel) (Nat.le_of_ble_eq_true rfl) (fun p e s m below meth c X hr H locs ls hw hS hl => wX5_once_0 hg X hr σ h H locs ls hw hS (lv_sub hl [0, 1, 2] rfl))
theorem fX5_once : vfit yX5_once cX5_once 3 (some .int) 2 := ⟨mw_495, mw_496, mw_5, mw_497, by decide +kernel, by decide +kernel, by decide +kernel⟩
