/-! BigPolys$Bench.meet()V -/
def rmX0_meet : Room := { frames := 3, cells := 0, slots := 0, locals := 90 }
def wpX0_meet_48 (Q : CS → Prop) (v1 : Nat) (σ : CS) : Prop :=
  (v1 = 320 →
    Q σ) ∧
  (¬ v1 = 320 →
    wpX3_load 320 v1 σ (fun (σ2 : CS) =>
      Q σ2))
set_option maxRecDepth 100000 in
set_option maxHeartbeats 4000000 in
theorem wX0_meet_48 {p : Program} {l : Launch} {e : Env} {s : State} {m : MethodId} {args : Array Value} {below : List Frame} {meth : Method} {c : Code} {D : va_G} {A : Nat → Prop} {g : mG} (hg : inj g) (X : cx p m meth c s args cX0_meet 5 RX0 D (tyG g)) (hr : meth.sig.returnType = none) {Q : CS → Prop} : ∀ (v1 : Nat) (σ : CS), okW v1 → wpX0_meet_48 Q v1 σ → cW p l e rmX0_meet s m args below meth c (MQ below (va_Qv Q (fun u t => wd D A (cT g u) t.heap) A) args s 0 0 A) D A (cT g σ) 48 5 [(0, .ref (g.1 2002)), (1, .ref (g.1 (4 * v1)))] := by
  obtain ⟨hx, hb, hml, hown, hts, hK, hlk⟩ := id X
  intro v1 σ hv1 h H locs ls hw hS hl
  unfold wpX0_meet_48 at h
  refine lv_aload_n hx hb dX0_meet_48 rfl (lv_at hl 1 rfl) ?_
  refine lv_aload_n hx hb dX0_meet_49 rfl (lv_at hl 0 rfl) ?_
  refine m_get (v := .ref (g.1 (4 * 320))) X hw tB rfl inA_X0 2 (by decide) mw_63 rfl dX0_meet_50 ?_
  refine lv_acmp_eq (rx := some (g.1 (4 * v1))) (ry := some (g.1 (4 * 320))) (tgt := 64) hx hb dX0_meet_53 (by decide) (fun hc => ?_) (fun hc => ?_)
  · replace h := h.1 (acmp_t hg hc)
    exact m_vret X hr hw hS h dX0_meet_64
  · replace h := h.2 (acmp_f hc)
    refine lv_aload_n hx hb dX0_meet_56 rfl (lv_at hl 0 rfl) ?_
    refine m_get (v := .ref (g.1 (4 * 320))) X hw tB rfl inA_X0 2 (by decide) mw_63 rfl dX0_meet_57 ?_
    refine lv_aload_n hx hb dX0_meet_60 rfl (lv_at hl 1 rfl) ?_
    refine m_cVv (TT := cT g) (As := [.ref (g.1 (4 * v1))]) (rest := []) X hl.1 hw hS (kX3_load hg (okW_b (by decide)) hv1 h) mw_308 fX3_load (tW (okW_b (by decide))) rfl rfl ⟨rfl, rfl, Nat.le_of_ble_eq_true rfl, Nat.le_of_ble_eq_true rfl⟩ rfl rfl (Nat.le_of_ble_eq_true rfl) dX0_meet_61 (fun σ2 H locs h hw hS => ?_)
    exact m_vret X hr hw hS h dX0_meet_64
def wbX0_meet_12 (Q : CS → Prop) (N12 : Nat → Nat → Int32 → CS → Prop) (v1 : Nat) (v2 : Nat) (i3 : Int32) (σ : CS) : Prop :=
  ((1000000 : Int32) ≤ i3 →
    wpX0_meet_48 Q v1 σ) ∧
  (¬ (1000000 : Int32) ≤ i3 →
    ((cG σ v2) = 0 →
      wpX0_meet_48 Q v1 σ) ∧
    (¬ (cG σ v2) = 0 →
      wpX3_divide v1 v2 322 σ (fun (σ4 : CS) =>
        ∀ a5 : Int32, a5 = i3 + (1 : Int32) →
        N12 v2 v1 a5 σ4)))
set_option maxRecDepth 100000 in
set_option maxHeartbeats 4000000 in
theorem wX0_meet_12 {p : Program} {l : Launch} {e : Env} {s : State} {m : MethodId} {args : Array Value} {below : List Frame} {meth : Method} {c : Code} {D : va_G} {A : Nat → Prop} {g : mG} (hg : inj g) (X : cx p m meth c s args cX0_meet 5 RX0 D (tyG g)) (hr : meth.sig.returnType = none) {Q : CS → Prop} : ∀ (n : Nat) (v1 : Nat) (v2 : Nat) (i3 : Int32) (σ : CS), okW v1 → okW v2 → lq4 (wbX0_meet_12 Q) n v1 v2 i3 σ → cW p l e rmX0_meet s m args below meth c (MQ below (va_Qv Q (fun u t => wd D A (cT g u) t.heap) A) args s 0 0 A) D A (cT g σ) 12 5 [(0, .ref (g.1 2002)), (1, .ref (g.1 (4 * v1))), (2, .ref (g.1 (4 * v2))), (3, .int i3)] := by
  obtain ⟨hx, hb, hml, hown, hts, hK, hlk⟩ := id X
  intro n
  induction n with
  | zero =>
    intro v1 v2 i3 σ hv1 hv2 h
    exact h.elim
  | succ n hN12 =>
    intro v1 v2 i3 σ hv1 hv2 h H locs ls hw hS hl
    replace h : wbX0_meet_12 Q (lq4 (wbX0_meet_12 Q) n) v1 v2 i3 σ := h
    unfold wbX0_meet_12 at h
    refine lv_iload_n hx hb dX0_meet_12 rfl (lv_at hl 3 rfl) ?_
    refine lv_ldc (v := (1000000 : Int32)) hx hb hown (hts _ mw_420) dX0_meet_13 ?_
    refine lv_icmp_ge (tgt := 48) hx hb dX0_meet_15 (by decide) (fun hc => ?_) (fun hc => ?_)
    · replace h := h.1 hc
      exact wX0_meet_48 hg X hr v1 _ hv1 h H locs ls hw hS (lv_sub hl [0, 1] rfl)
    · replace h := h.2 hc
      refine lv_aload_n hx hb dX0_meet_18 rfl (lv_at hl 2 rfl) ?_
      refine m_getN (v := .int (cG σ v2)) X hw (tW hv2) rfl inA_X3 2 (by decide) (List.mem_append_left _ (List.mem_map.mpr ⟨_, List.mem_of_getElem? (i := 10) rfl, rfl⟩)) rfl dX0_meet_19 ?_
      refine lv_if_eq (tgt := 48) hx hb dX0_meet_22 (by decide) (fun hc => ?_) (fun hc => ?_)
      · replace h := h.1 hc
        exact wX0_meet_48 hg X hr v1 _ hv1 h H locs ls hw hS (lv_sub hl [0, 1] rfl)
      · replace h := h.2 hc
        refine lv_aload_n hx hb dX0_meet_25 rfl (lv_at hl 1 rfl) ?_
        refine lv_aload_n hx hb dX0_meet_26 rfl (lv_at hl 2 rfl) ?_
        refine lv_aload_n hx hb dX0_meet_27 rfl (lv_at hl 0 rfl) ?_
        refine m_get (v := .ref (g.1 (4 * 322))) X hw tB rfl inA_X0 4 (by decide) mw_65 rfl dX0_meet_28 ?_
        refine m_cVv (TT := cT g) (As := [.ref (g.1 (4 * v2)), .ref (g.1 (4 * 322))]) (rest := []) X hl.1 hw hS (kX3_divide hg hv1 hv2 (okW_b (by decide)) h) mw_356 fX3_divide (tW hv1) rfl rfl ⟨rfl, rfl, Nat.le_of_ble_eq_true rfl, Nat.le_of_ble_eq_true rfl⟩ rfl rfl (Nat.le_of_ble_eq_true rfl) dX0_meet_31 (fun σ4 H locs h hw hS => ?_)
        refine lv_aload_n hx hb dX0_meet_34 rfl (lv_at hl 1 rfl) ?_
        refine lv_astore (lv' := [(4, .ref (g.1 (4 * v1))), (0, .ref (g.1 2002)), (1, .ref (g.1 (4 * v1))), (2, .ref (g.1 (4 * v2))), (3, .int i3)]) hx hb dX0_meet_35 hl (by decide) rfl (fun ls hl => ?_)
        refine lv_aload_n hx hb dX0_meet_37 rfl (lv_at hl 3 rfl) ?_
        refine lv_astore_n (lv' := [(1, .ref (g.1 (4 * v2))), (4, .ref (g.1 (4 * v1))), (0, .ref (g.1 2002)), (2, .ref (g.1 (4 * v2))), (3, .int i3)]) hx hb dX0_meet_38 rfl hl (by decide) rfl (fun ls hl => ?_)
        refine lv_aload hx hb dX0_meet_39 (lv_at hl 1 rfl) ?_
        refine lv_astore_n (lv' := [(2, .ref (g.1 (4 * v1))), (1, .ref (g.1 (4 * v2))), (4, .ref (g.1 (4 * v1))), (0, .ref (g.1 2002)), (3, .int i3)]) hx hb dX0_meet_41 rfl hl (by decide) rfl (fun ls hl => ?_)
        obtain ⟨a5, ea5⟩ : ∃ z : Int32, z = i3 + (1 : Int32) := ⟨_, rfl⟩
        replace h := h a5 ea5
        refine lv_iinc (v := a5) (lv' := [(3, .int a5), (2, .ref (g.1 (4 * v1))), (1, .ref (g.1 (4 * v2))), (4, .ref (g.1 (4 * v1))), (0, .ref (g.1 2002))]) hx hb dX0_meet_42 hl (k := 4) rfl (by rw [ea5]; rfl) (by decide) rfl (fun ls hl => ?_)
        refine lv_goto (tgt := 12) hx hb dX0_meet_45 (by decide) ?_
        exact hN12 v2 v1 a5 _ hv2 hv1 h H locs ls hw hS (lv_sub hl [4, 2, 1, 0] rfl)
def wpX0_meet_0 (Q : CS → Prop) (σ : CS) : Prop :=
  ∃ n, lq4 (wbX0_meet_12 Q) n 320 321 (0 : Int32) σ
set_option maxRecDepth 100000 in
set_option maxHeartbeats 4000000 in
theorem wX0_meet_0 {p : Program} {l : Launch} {e : Env} {s : State} {m : MethodId} {args : Array Value} {below : List Frame} {meth : Method} {c : Code} {D : va_G} {A : Nat → Prop} {g : mG} (hg : inj g) (X : cx p m meth c s args cX0_meet 5 RX0 D (tyG g)) (hr : meth.sig.returnType = none) {Q : CS → Prop} : ∀ (σ : CS), wpX0_meet_0 Q σ → cW p l e rmX0_meet s m args below meth c (MQ below (va_Qv Q (fun u t => wd D A (cT g u) t.heap) A) args s 0 0 A) D A (cT g σ) 0 5 [(0, .ref (g.1 2002))] := by
  obtain ⟨hx, hb, hml, hown, hts, hK, hlk⟩ := id X
  intro σ h H locs ls hw hS hl
  unfold wpX0_meet_0 at h
  refine lv_aload_n hx hb dX0_meet_0 rfl (lv_at hl 0 rfl) ?_
  refine m_get (v := .ref (g.1 (4 * 320))) X hw tB rfl inA_X0 2 (by decide) mw_63 rfl dX0_meet_1 ?_
  refine lv_astore_n (lv' := [(1, .ref (g.1 (4 * 320))), (0, .ref (g.1 2002))]) hx hb dX0_meet_4 rfl hl (by decide) rfl (fun ls hl => ?_)
  refine lv_aload_n hx hb dX0_meet_5 rfl (lv_at hl 1 rfl) ?_
  refine m_get (v := .ref (g.1 (4 * 321))) X hw tB rfl inA_X0 3 (by decide) mw_64 rfl dX0_meet_6 ?_
  refine lv_astore_n (lv' := [(2, .ref (g.1 (4 * 321))), (1, .ref (g.1 (4 * 320))), (0, .ref (g.1 2002))]) hx hb dX0_meet_9 rfl hl (by decide) rfl (fun ls hl => ?_)
  refine lv_iconst (v := (0 : Int32)) hx hb dX0_meet_10 (by decide) ?_
  refine lv_istore_n (lv' := [(3, .int (0 : Int32)), (2, .ref (g.1 (4 * 321))), (1, .ref (g.1 (4 * 320))), (0, .ref (g.1 2002))]) hx hb dX0_meet_11 rfl hl (by decide) rfl (fun ls hl => ?_)
  obtain ⟨n9, h⟩ := h
  exact wX0_meet_12 hg X hr n9 320 321 (0 : Int32) _ (okW_b (by decide)) (okW_b (by decide)) h H locs ls hw hS (lv_sub hl [3, 2, 1, 0] rfl)
def wpX0_meet (σ : CS) (Q : CS → Prop) : Prop := wpX0_meet_0 Q σ
theorem kX0_meet {l : Launch} {D : va_G} {A : Nat → Prop} {g : mG} (hg : inj g) {σ : CS} {Q : CS → Prop} (h : wpX0_meet σ Q) : Met l yX0_meet (Cond.code yX0_meet cX0_meet 5 none :: wsA) rmX0_meet (mPc D (tyG g) A (cT g σ) [.ref (g.1 2002)]) (va_Qv Q (fun u t => wd D A (cT g u) t.heap) A) 0 0 A :=
  m_met (by decide +kernel) (Nat.le_of_ble_eq_true rfl) (fun p e s m below meth c X hr H locs ls hw hS hl => wX0_meet_0 hg X hr σ h H locs ls hw hS (lv_sub hl [0] rfl))
theorem fX0_meet : vfit yX0_meet cX0_meet 5 none 0 := ⟨mw_417, mw_418, mw_43, mw_419, by decide +kernel, by decide +kernel, by decide +kernel⟩
/-! BigPolys$Bench.divideAll(LBigPolys$Poly;LBigPolys$Whole;)V -/
def rmX0_divideAll : Room := { frames := 3, cells := 0, slots := 0, locals := 90 }
def wbX0_divideAll_17 (p1 : Nat) (w2 : Nat) (Q : CS → Prop) (N17 : Int32 → CS → Prop) (i3 : Int32) (σ : CS) : Prop :=
  ((cD σ p1) < i3 →
    Q σ) ∧
  (¬ (cD σ p1) < i3 →
    vp_in i3 (tlen p1) ∧ (
    wpX3_divide (16 * p1 + i3.toNatClampNeg) w2 322 σ (fun (σ3 : CS) =>
      vp_in i3 (tlen p1) ∧ (
      wpX3_load (16 * p1 + i3.toNatClampNeg) 322 σ3 (fun (σ6 : CS) =>
        ∀ a7 : Int32, a7 = i3 + (1 : Int32) →
        N17 a7 σ6)))))
set_option maxRecDepth 100000 in
set_option maxHeartbeats 4000000 in
theorem wX0_divideAll_17 {p : Program} {l : Launch} {e : Env} {s : State} {m : MethodId} {args : Array Value} {below : List Frame} {meth : Method} {c : Code} {D : va_G} {A : Nat → Prop} {g : mG} (hg : inj g) {p1 : Nat} {w2 : Nat} (hp1 : p1 < 20) (hw2 : okW w2) (X : cx p m meth c s args cX0_divideAll 4 RX0 D (tyG g)) (hr : meth.sig.returnType = none) {Q : CS → Prop} : ∀ (n : Nat) (i3 : Int32) (σ : CS), lq2 (wbX0_divideAll_17 p1 w2 Q) n i3 σ → cW p l e rmX0_divideAll s m args below meth c (MQ below (va_Qv Q (fun u t => wd D A (cT g u) t.heap) A) args s 0 0 A) D A (cT g σ) 17 4 [(0, .ref (g.1 2002)), (1, .ref (g.1 (4 * p1 + 2))), (2, .ref (g.1 (4 * w2))), (3, .int i3)] := by
  obtain ⟨hx, hb, hml, hown, hts, hK, hlk⟩ := id X
  intro n
  induction n with
  | zero =>
    intro i3 σ h
    exact h.elim
  | succ n hN17 =>
    intro i3 σ h H locs ls hw hS hl
    replace h : wbX0_divideAll_17 p1 w2 Q (lq2 (wbX0_divideAll_17 p1 w2 Q) n) i3 σ := h
    unfold wbX0_divideAll_17 at h
    refine lv_iload_n hx hb dX0_divideAll_17 rfl (lv_at hl 3 rfl) ?_
    refine lv_aload_n hx hb dX0_divideAll_18 rfl (lv_at hl 1 rfl) ?_
    refine m_getN (v := .int (cD σ p1)) X hw (tP hp1) rfl inA_X2 1 (by decide) (List.mem_append_left _ (List.mem_map.mpr ⟨_, List.mem_of_getElem? (i := 8) rfl, rfl⟩)) rfl dX0_divideAll_19 ?_
    refine lv_icmp_gt (tgt := 58) hx hb dX0_divideAll_22 (by decide) (fun hc => ?_) (fun hc => ?_)
    · replace h := h.1 hc
      exact m_vret X hr hw hS h dX0_divideAll_58
    · replace h := h.2 hc
      refine lv_aload_n hx hb dX0_divideAll_25 rfl (lv_at hl 1 rfl) ?_
      refine m_getN (v := .ref (g.1 (4 * p1 + 3))) X hw (tP hp1) rfl inA_X2 0 (by decide) (List.mem_append_left _ (List.mem_map.mpr ⟨_, List.mem_of_getElem? (i := 9) rfl, rfl⟩)) rfl dX0_divideAll_26 ?_
      refine lv_iload_n hx hb dX0_divideAll_29 rfl (lv_at hl 3 rfl) ?_
      obtain ⟨hi1, h⟩ := h
      refine m_aald X hw (tT hp1) 2 rfl hi1 dX0_divideAll_30 ?_
      refine lv_aload_n hx hb dX0_divideAll_31 rfl (lv_at hl 2 rfl) ?_
      refine lv_aload_n hx hb dX0_divideAll_32 rfl (lv_at hl 0 rfl) ?_
      refine m_get (v := .ref (g.1 (4 * 322))) X hw tB rfl inA_X0 4 (by decide) mw_65 rfl dX0_divideAll_33 ?_
      refine m_cVv (TT := cT g) (As := [.ref (g.1 (4 * w2)), .ref (g.1 (4 * 322))]) (rest := []) X hl.1 hw hS (kX3_divide hg (okW_t hp1 hi1) hw2 (okW_b (by decide)) h) mw_356 fX3_divide (tW (okW_t hp1 hi1)) rfl rfl ⟨rfl, rfl, Nat.le_of_ble_eq_true rfl, Nat.le_of_ble_eq_true rfl⟩ rfl rfl (Nat.le_of_ble_eq_true rfl) dX0_divideAll_36 (fun σ3 H locs h hw hS => ?_)
      refine lv_aload_n hx hb dX0_divideAll_39 rfl (lv_at hl 1 rfl) ?_
      refine m_getN (v := .ref (g.1 (4 * p1 + 3))) X hw (tP hp1) rfl inA_X2 0 (by decide) (List.mem_append_left _ (List.mem_map.mpr ⟨_, List.mem_of_getElem? (i := 9) rfl, rfl⟩)) rfl dX0_divideAll_40 ?_
      refine lv_iload_n hx hb dX0_divideAll_43 rfl (lv_at hl 3 rfl) ?_
      obtain ⟨hi4, h⟩ := h
      refine m_aald X hw (tT hp1) 2 rfl hi4 dX0_divideAll_44 ?_
      refine lv_aload_n hx hb dX0_divideAll_45 rfl (lv_at hl 0 rfl) ?_
      refine m_get (v := .ref (g.1 (4 * 322))) X hw tB rfl inA_X0 4 (by decide) mw_65 rfl dX0_divideAll_46 ?_
      refine m_cVv (TT := cT g) (As := [.ref (g.1 (4 * 322))]) (rest := []) X hl.1 hw hS (kX3_load hg (okW_t hp1 hi4) (okW_b (by decide)) h) mw_308 fX3_load (tW (okW_t hp1 hi4)) rfl rfl ⟨rfl, rfl, Nat.le_of_ble_eq_true rfl, Nat.le_of_ble_eq_true rfl⟩ rfl rfl (Nat.le_of_ble_eq_true rfl) dX0_divideAll_49 (fun σ6 H locs h hw hS => ?_)
      obtain ⟨a7, ea7⟩ : ∃ z : Int32, z = i3 + (1 : Int32) := ⟨_, rfl⟩
      replace h := h a7 ea7
      refine lv_iinc (v := a7) (lv' := [(3, .int a7), (0, .ref (g.1 2002)), (1, .ref (g.1 (4 * p1 + 2))), (2, .ref (g.1 (4 * w2)))]) hx hb dX0_divideAll_52 hl (k := 3) rfl (by rw [ea7]; rfl) (by decide) rfl (fun ls hl => ?_)
      refine lv_goto (tgt := 17) hx hb dX0_divideAll_55 (by decide) ?_
      exact hN17 a7 _ h H locs ls hw hS (lv_sub hl [1, 2, 3, 0] rfl)
def wpX0_divideAll_15 (p1 : Nat) (w2 : Nat) (Q : CS → Prop) (σ : CS) : Prop :=
  ∃ n, lq2 (wbX0_divideAll_17 p1 w2 Q) n (0 : Int32) σ
set_option maxRecDepth 100000 in
set_option maxHeartbeats 4000000 in
theorem wX0_divideAll_15 {p : Program} {l : Launch} {e : Env} {s : State} {m : MethodId} {args : Array Value} {below : List Frame} {meth : Method} {c : Code} {D : va_G} {A : Nat → Prop} {g : mG} (hg : inj g) {p1 : Nat} {w2 : Nat} (hp1 : p1 < 20) (hw2 : okW w2) (X : cx p m meth c s args cX0_divideAll 4 RX0 D (tyG g)) (hr : meth.sig.returnType = none) {Q : CS → Prop} : ∀ (σ : CS), wpX0_divideAll_15 p1 w2 Q σ → cW p l e rmX0_divideAll s m args below meth c (MQ below (va_Qv Q (fun u t => wd D A (cT g u) t.heap) A) args s 0 0 A) D A (cT g σ) 15 4 [(0, .ref (g.1 2002)), (1, .ref (g.1 (4 * p1 + 2))), (2, .ref (g.1 (4 * w2)))] := by
  obtain ⟨hx, hb, hml, hown, hts, hK, hlk⟩ := id X
  intro σ h H locs ls hw hS hl
  unfold wpX0_divideAll_15 at h
  refine lv_iconst (v := (0 : Int32)) hx hb dX0_divideAll_15 (by decide) ?_
  refine lv_istore_n (lv' := [(3, .int (0 : Int32)), (0, .ref (g.1 2002)), (1, .ref (g.1 (4 * p1 + 2))), (2, .ref (g.1 (4 * w2)))]) hx hb dX0_divideAll_16 rfl hl (by decide) rfl (fun ls hl => ?_)
  obtain ⟨n9, h⟩ := h
  exact wX0_divideAll_17 hg hp1 hw2 X hr n9 (0 : Int32) _ h H locs ls hw hS (lv_sub hl [1, 2, 3, 0] rfl)
def wpX0_divideAll_0 (p1 : Nat) (w2 : Nat) (Q : CS → Prop) (σ : CS) : Prop :=
  wpX3_isUnit w2 σ (fun (r8 : Int32) (σ9 : CS) =>
    (r8 = 0 →
      wpX0_divideAll_15 p1 w2 Q σ9) ∧
    (¬ r8 = 0 →
      ((cG σ9 w2) ≤ 0 →
        wpX0_divideAll_15 p1 w2 Q σ9) ∧
      (¬ (cG σ9 w2) ≤ 0 →
        Q σ9)))
set_option maxRecDepth 100000 in
set_option maxHeartbeats 4000000 in
theorem wX0_divideAll_0 {p : Program} {l : Launch} {e : Env} {s : State} {m : MethodId} {args : Array Value} {below : List Frame} {meth : Method} {c : Code} {D : va_G} {A : Nat → Prop} {g : mG} (hg : inj g) {p1 : Nat} {w2 : Nat} (hp1 : p1 < 20) (hw2 : okW w2) (X : cx p m meth c s args cX0_divideAll 4 RX0 D (tyG g)) (hr : meth.sig.returnType = none) {Q : CS → Prop} : ∀ (σ : CS), wpX0_divideAll_0 p1 w2 Q σ → cW p l e rmX0_divideAll s m args below meth c (MQ below (va_Qv Q (fun u t => wd D A (cT g u) t.heap) A) args s 0 0 A) D A (cT g σ) 0 4 [(0, .ref (g.1 2002)), (1, .ref (g.1 (4 * p1 + 2))), (2, .ref (g.1 (4 * w2)))] := by
  obtain ⟨hx, hb, hml, hown, hts, hK, hlk⟩ := id X
  intro σ h H locs ls hw hS hl
  unfold wpX0_divideAll_0 at h
  refine lv_aload_n hx hb dX0_divideAll_0 rfl (lv_at hl 2 rfl) ?_
  refine m_cVi (TT := cT g) (As := []) (rest := []) X hl.1 hw hS (kX3_isUnit hg hw2 h) mw_412 fX3_isUnit (tW hw2) rfl rfl ⟨rfl, rfl, Nat.le_of_ble_eq_true rfl, Nat.le_of_ble_eq_true rfl⟩ rfl rfl (Nat.le_of_ble_eq_true rfl) dX0_divideAll_1 (fun r8 σ9 H locs h hw hS => ?_)
  refine lv_if_eq (tgt := 15) hx hb dX0_divideAll_4 (by decide) (fun hc => ?_) (fun hc => ?_)
  · replace h := h.1 hc
    exact wX0_divideAll_15 hg hp1 hw2 X hr _ h H locs ls hw hS (lv_sub hl [0, 1, 2] rfl)
  · replace h := h.2 hc
    refine lv_aload_n hx hb dX0_divideAll_7 rfl (lv_at hl 2 rfl) ?_
    refine m_getN (v := .int (cG σ9 w2)) X hw (tW hw2) rfl inA_X3 2 (by decide) (List.mem_append_left _ (List.mem_map.mpr ⟨_, List.mem_of_getElem? (i := 10) rfl, rfl⟩)) rfl dX0_divideAll_8 ?_
    refine lv_if_le (tgt := 15) hx hb dX0_divideAll_11 (by decide) (fun hc => ?_) (fun hc => ?_)
    · replace h := h.1 hc
      exact wX0_divideAll_15 hg hp1 hw2 X hr _ h H locs ls hw hS (lv_sub hl [0, 1, 2] rfl)
    · replace h := h.2 hc
      exact m_vret X hr hw hS h dX0_divideAll_14
def wpX0_divideAll (p1 : Nat) (w2 : Nat) (σ : CS) (Q : CS → Prop) : Prop := wpX0_divideAll_0 p1 w2 Q σ
theorem kX0_divideAll {l : Launch} {D : va_G} {A : Nat → Prop} {g : mG} (hg : inj g) {p1 : Nat} {w2 : Nat} (hp1 : p1 < 20) (hw2 : okW w2) {σ : CS} {Q : CS → Prop} (h : wpX0_divideAll p1 w2 σ Q) : Met l yX0_divideAll (Cond.code yX0_divideAll cX0_divideAll 4 none :: wsA) rmX0_divideAll (mPc D (tyG g) A (cT g σ) [.ref (g.1 2002), .ref (g.1 (4 * p1 + 2)), .ref (g.1 (4 * w2))]) (va_Qv Q (fun u t => wd D A (cT g u) t.heap) A) 0 0 A :=
  m_met (by decide +kernel) (Nat.le_of_ble_eq_true rfl) (fun p e s m below meth c X hr H locs ls hw hS hl => wX0_divideAll_0 hg hp1 hw2 X hr σ h H locs ls hw hS (lv_sub hl [0, 1, 2] rfl))
theorem fX0_divideAll : vfit yX0_divideAll cX0_divideAll 4 none 2 := ⟨mw_422, mw_423, mw_43, mw_424, by decide +kernel, by decide +kernel, by decide +kernel⟩
/-! BigPolys$Bench.makePrimitive(LBigPolys$Poly;)V -/
def rmX0_makePrimitive : Room := { frames := 4, cells := 0, slots := 0, locals := 114 }
def wpX0_makePrimitive_49 (p1 : Nat) (Q : CS → Prop) (σ : CS) : Prop :=
  wpX0_divideAll p1 320 σ (fun (σ2 : CS) =>
    wpX2_leadSign p1 σ2 (fun (r3 : Int32) (σ4 : CS) =>
      (0 ≤ r3 →
        Q σ4) ∧
      (¬ 0 ≤ r3 →
        wpX2_negate p1 σ4 (fun (σ6 : CS) =>
          Q σ6))))
set_option maxRecDepth 100000 in
set_option maxHeartbeats 4000000 in
theorem wX0_makePrimitive_49 {p : Program} {l : Launch} {e : Env} {s : State} {m : MethodId} {args : Array Value} {below : List Frame} {meth : Method} {c : Code} {D : va_G} {A : Nat → Prop} {g : mG} (hg : inj g) {p1 : Nat} (hp1 : p1 < 20) (X : cx p m meth c s args cX0_makePrimitive 3 RX0 D (tyG g)) (hr : meth.sig.returnType = none) {Q : CS → Prop} : ∀ (σ : CS), wpX0_makePrimitive_49 p1 Q σ → cW p l e rmX0_makePrimitive s m args below meth c (MQ below (va_Qv Q (fun u t => wd D A (cT g u) t.heap) A) args s 0 0 A) D A (cT g σ) 49 3 [(0, .ref (g.1 2002)), (1, .ref (g.1 (4 * p1 + 2)))] := by
  obtain ⟨hx, hb, hml, hown, hts, hK, hlk⟩ := id X
  intro σ h H locs ls hw hS hl
  unfold wpX0_makePrimitive_49 at h
  refine lv_aload_n hx hb dX0_makePrimitive_49 rfl (lv_at hl 0 rfl) ?_
  refine lv_aload_n hx hb dX0_makePrimitive_50 rfl (lv_at hl 1 rfl) ?_
  refine lv_aload_n hx hb dX0_makePrimitive_51 rfl (lv_at hl 0 rfl) ?_
  refine m_get (v := .ref (g.1 (4 * 320))) X hw tB rfl inA_X0 2 (by decide) mw_63 rfl dX0_makePrimitive_52 ?_
  refine m_cVv (TT := cT g) (As := [.ref (g.1 (4 * p1 + 2)), .ref (g.1 (4 * 320))]) (rest := []) X hl.1 hw hS (kX0_divideAll hg hp1 (okW_b (by decide)) h) mw_421 fX0_divideAll tB rfl rfl ⟨rfl, rfl, Nat.le_of_ble_eq_true rfl, Nat.le_of_ble_eq_true rfl⟩ rfl rfl (Nat.le_of_ble_eq_true rfl) dX0_makePrimitive_55 (fun σ2 H locs h hw hS => ?_)
  refine lv_aload_n hx hb dX0_makePrimitive_58 rfl (lv_at hl 1 rfl) ?_
  refine m_cVi (TT := cT g) (As := []) (rest := []) X hl.1 hw hS (kX2_leadSign hg hp1 h) mw_331 fX2_leadSign (tP hp1) rfl rfl ⟨rfl, rfl, Nat.le_of_ble_eq_true rfl, Nat.le_of_ble_eq_true rfl⟩ rfl rfl (Nat.le_of_ble_eq_true rfl) dX0_makePrimitive_59 (fun r3 σ4 H locs h hw hS => ?_)
  refine lv_if_ge (tgt := 69) hx hb dX0_makePrimitive_62 (by decide) (fun hc => ?_) (fun hc => ?_)
  · replace h := h.1 hc
    exact m_vret X hr hw hS h dX0_makePrimitive_69
  · replace h := h.2 hc
    refine lv_aload_n hx hb dX0_makePrimitive_65 rfl (lv_at hl 1 rfl) ?_
    refine m_cVv (TT := cT g) (As := []) (rest := []) X hl.1 hw hS (kX2_negate hg hp1 h) mw_335 fX2_negate (tP hp1) rfl rfl ⟨rfl, rfl, Nat.le_of_ble_eq_true rfl, Nat.le_of_ble_eq_true rfl⟩ rfl rfl (Nat.le_of_ble_eq_true rfl) dX0_makePrimitive_66 (fun σ6 H locs h hw hS => ?_)
    exact m_vret X hr hw hS h dX0_makePrimitive_69
def wbX0_makePrimitive_12 (p1 : Nat) (Q : CS → Prop) (N12 : Int32 → CS → Prop) (i2 : Int32) (σ : CS) : Prop :=
  (i2 < 0 →
    wpX0_makePrimitive_49 p1 Q σ) ∧
  (¬ i2 < 0 →
    wpX3_isUnit 320 σ (fun (r7 : Int32) (σ8 : CS) =>
      (¬ r7 = 0 →
        wpX0_makePrimitive_49 p1 Q σ8) ∧
      (r7 = 0 →
        vp_in i2 (tlen p1) ∧ (
        wpX3_load 321 (16 * p1 + i2.toNatClampNeg) σ8 (fun (σ11 : CS) =>
          wpX0_meet σ11 (fun (σ13 : CS) =>
            ∀ a14 : Int32, a14 = i2 + (-1 : Int32) →
            N12 a14 σ13))))))
set_option maxRecDepth 100000 in
set_option maxHeartbeats 4000000 in
theorem wX0_makePrimitive_12 {p : Program} {l : Launch} {e : Env} {s : State} {m : MethodId} {args : Array Value} {below : List Frame} {meth : Method} {c : Code} {D : va_G} {A : Nat → Prop} {g : mG} (hg : inj g) {p1 : Nat} (hp1 : p1 < 20) (X : cx p m meth c s args cX0_makePrimitive 3 RX0 D (tyG g)) (hr : meth.sig.returnType = none) {Q : CS → Prop} : ∀ (n : Nat) (i2 : Int32) (σ : CS), lq2 (wbX0_makePrimitive_12 p1 Q) n i2 σ → cW p l e rmX0_makePrimitive s m args below meth c (MQ below (va_Qv Q (fun u t => wd D A (cT g u) t.heap) A) args s 0 0 A) D A (cT g σ) 12 3 [(0, .ref (g.1 2002)), (1, .ref (g.1 (4 * p1 + 2))), (2, .int i2)] := by
  obtain ⟨hx, hb, hml, hown, hts, hK, hlk⟩ := id X
  intro n
  induction n with
  | zero =>
    intro i2 σ h
    exact h.elim
  | succ n hN12 =>
    intro i2 σ h H locs ls hw hS hl
    replace h : wbX0_makePrimitive_12 p1 Q (lq2 (wbX0_makePrimitive_12 p1 Q) n) i2 σ := h
    unfold wbX0_makePrimitive_12 at h
    refine lv_iload_n hx hb dX0_makePrimitive_12 rfl (lv_at hl 2 rfl) ?_
    refine lv_if_lt (tgt := 49) hx hb dX0_makePrimitive_13 (by decide) (fun hc => ?_) (fun hc => ?_)
    · replace h := h.1 hc
      exact wX0_makePrimitive_49 hg hp1 X hr _ h H locs ls hw hS (lv_sub hl [0, 1] rfl)
    · replace h := h.2 hc
      refine lv_aload_n hx hb dX0_makePrimitive_16 rfl (lv_at hl 0 rfl) ?_
      refine m_get (v := .ref (g.1 (4 * 320))) X hw tB rfl inA_X0 2 (by decide) mw_63 rfl dX0_makePrimitive_17 ?_
      refine m_cVi (TT := cT g) (As := []) (rest := []) X hl.1 hw hS (kX3_isUnit hg (okW_b (by decide)) h) mw_412 fX3_isUnit (tW (okW_b (by decide))) rfl rfl ⟨rfl, rfl, Nat.le_of_ble_eq_true rfl, Nat.le_of_ble_eq_true rfl⟩ rfl rfl (Nat.le_of_ble_eq_true rfl) dX0_makePrimitive_20 (fun r7 σ8 H locs h hw hS => ?_)
      refine lv_if_ne (tgt := 49) hx hb dX0_makePrimitive_23 (by decide) (fun hc => ?_) (fun hc => ?_)
      · replace h := h.1 hc
        exact wX0_makePrimitive_49 hg hp1 X hr _ h H locs ls hw hS (lv_sub hl [0, 1] rfl)
      · replace h := h.2 hc
        refine lv_aload_n hx hb dX0_makePrimitive_26 rfl (lv_at hl 0 rfl) ?_
        refine m_get (v := .ref (g.1 (4 * 321))) X hw tB rfl inA_X0 3 (by decide) mw_64 rfl dX0_makePrimitive_27 ?_
        refine lv_aload_n hx hb dX0_makePrimitive_30 rfl (lv_at hl 1 rfl) ?_
        refine m_getN (v := .ref (g.1 (4 * p1 + 3))) X hw (tP hp1) rfl inA_X2 0 (by decide) (List.mem_append_left _ (List.mem_map.mpr ⟨_, List.mem_of_getElem? (i := 9) rfl, rfl⟩)) rfl dX0_makePrimitive_31 ?_
        refine lv_iload_n hx hb dX0_makePrimitive_34 rfl (lv_at hl 2 rfl) ?_
        obtain ⟨hi9, h⟩ := h
        refine m_aald X hw (tT hp1) 2 rfl hi9 dX0_makePrimitive_35 ?_
        refine m_cVv (TT := cT g) (As := [.ref (g.1 (4 * (16 * p1 + i2.toNatClampNeg)))]) (rest := []) X hl.1 hw hS (kX3_load hg (okW_b (by decide)) (okW_t hp1 hi9) h) mw_308 fX3_load (tW (okW_b (by decide))) rfl rfl ⟨rfl, rfl, Nat.le_of_ble_eq_true rfl, Nat.le_of_ble_eq_true rfl⟩ rfl rfl (Nat.le_of_ble_eq_true rfl) dX0_makePrimitive_36 (fun σ11 H locs h hw hS => ?_)
        refine lv_aload_n hx hb dX0_makePrimitive_39 rfl (lv_at hl 0 rfl) ?_
        refine m_cVv (TT := cT g) (As := []) (rest := []) X hl.1 hw hS (kX0_meet hg h) mw_416 fX0_meet tB rfl rfl ⟨rfl, rfl, Nat.le_of_ble_eq_true rfl, Nat.le_of_ble_eq_true rfl⟩ rfl rfl (Nat.le_of_ble_eq_true rfl) dX0_makePrimitive_40 (fun σ13 H locs h hw hS => ?_)
        obtain ⟨a14, ea14⟩ : ∃ z : Int32, z = i2 + (-1 : Int32) := ⟨_, rfl⟩
        replace h := h a14 ea14
        refine lv_iinc (v := a14) (lv' := [(2, .int a14), (0, .ref (g.1 2002)), (1, .ref (g.1 (4 * p1 + 2)))]) hx hb dX0_makePrimitive_43 hl (k := 2) rfl (by rw [ea14]; rfl) (by decide) rfl (fun ls hl => ?_)
        refine lv_goto (tgt := 12) hx hb dX0_makePrimitive_46 (by decide) ?_
        exact hN12 a14 _ h H locs ls hw hS (lv_sub hl [1, 2, 0] rfl)
def wpX0_makePrimitive_0 (p1 : Nat) (Q : CS → Prop) (σ : CS) : Prop :=
  wpX3_clear 320 σ (fun (σ16 : CS) =>
    ∀ a17 : Int32, a17 = cD σ16 p1 →
    ∃ n, lq2 (wbX0_makePrimitive_12 p1 Q) n a17 σ16)
set_option maxRecDepth 100000 in
set_option maxHeartbeats 4000000 in
theorem wX0_makePrimitive_0 {p : Program} {l : Launch} {e : Env} {s : State} {m : MethodId} {args : Array Value} {below : List Frame} {meth : Method} {c : Code} {D : va_G} {A : Nat → Prop} {g : mG} (hg : inj g) {p1 : Nat} (hp1 : p1 < 20) (X : cx p m meth c s args cX0_makePrimitive 3 RX0 D (tyG g)) (hr : meth.sig.returnType = none) {Q : CS → Prop} : ∀ (σ : CS), wpX0_makePrimitive_0 p1 Q σ → cW p l e rmX0_makePrimitive s m args below meth c (MQ below (va_Qv Q (fun u t => wd D A (cT g u) t.heap) A) args s 0 0 A) D A (cT g σ) 0 3 [(0, .ref (g.1 2002)), (1, .ref (g.1 (4 * p1 + 2)))] := by
  obtain ⟨hx, hb, hml, hown, hts, hK, hlk⟩ := id X
  intro σ h H locs ls hw hS hl
  unfold wpX0_makePrimitive_0 at h
  refine lv_aload_n hx hb dX0_makePrimitive_0 rfl (lv_at hl 0 rfl) ?_
  refine m_get (v := .ref (g.1 (4 * 320))) X hw tB rfl inA_X0 2 (by decide) mw_63 rfl dX0_makePrimitive_1 ?_
  refine m_cVv (TT := cT g) (As := []) (rest := []) X hl.1 hw hS (kX3_clear hg (okW_b (by decide)) h) mw_326 fX3_clear (tW (okW_b (by decide))) rfl rfl ⟨rfl, rfl, Nat.le_of_ble_eq_true rfl, Nat.le_of_ble_eq_true rfl⟩ rfl rfl (Nat.le_of_ble_eq_true rfl) dX0_makePrimitive_4 (fun σ16 H locs h hw hS => ?_)
  refine lv_aload_n hx hb dX0_makePrimitive_7 rfl (lv_at hl 1 rfl) ?_
  refine m_getN (v := .int (cD σ16 p1)) X hw (tP hp1) rfl inA_X2 1 (by decide) (List.mem_append_left _ (List.mem_map.mpr ⟨_, List.mem_of_getElem? (i := 8) rfl, rfl⟩)) rfl dX0_makePrimitive_8 ?_
  refine lv_topi (fun a17 ea17 => ?_)
  replace h := h a17 ea17
  refine lv_istore_n (lv' := [(2, .int a17), (0, .ref (g.1 2002)), (1, .ref (g.1 (4 * p1 + 2)))]) hx hb dX0_makePrimitive_11 rfl hl (by decide) rfl (fun ls hl => ?_)
  obtain ⟨n9, h⟩ := h
  exact wX0_makePrimitive_12 hg hp1 X hr n9 a17 _ h H locs ls hw hS (lv_sub hl [1, 2, 0] rfl)
def wpX0_makePrimitive (p1 : Nat) (σ : CS) (Q : CS → Prop) : Prop := wpX0_makePrimitive_0 p1 Q σ
theorem kX0_makePrimitive {l : Launch} {D : va_G} {A : Nat → Prop} {g : mG} (hg : inj g) {p1 : Nat} (hp1 : p1 < 20) {σ : CS} {Q : CS → Prop} (h : wpX0_makePrimitive p1 σ Q) : Met l yX0_makePrimitive (Cond.code yX0_makePrimitive cX0_makePrimitive 3 none :: wsA) rmX0_makePrimitive (mPc D (tyG g) A (cT g σ) [.ref (g.1 2002), .ref (g.1 (4 * p1 + 2))]) (va_Qv Q (fun u t => wd D A (cT g u) t.heap) A) 0 0 A :=
  m_met (by decide +kernel) (Nat.le_of_ble_eq_true rfl) (fun p e s m below meth c X hr H locs ls hw hS hl => wX0_makePrimitive_0 hg hp1 X hr σ h H locs ls hw hS (lv_sub hl [0, 1] rfl))
theorem fX0_makePrimitive : vfit yX0_makePrimitive cX0_makePrimitive 3 none 1 := ⟨mw_409, mw_410, mw_43, mw_411, by decide +kernel, by decide +kernel, by decide +kernel⟩
/-! BigPolys$Bench.makeSmall(LBigPolys$Poly;LBigPolys$Poly;LBigPolys$Poly;)V -/
def rmX0_makeSmall : Room := { frames := 4, cells := 0, slots := 0, locals := 114 }
def wbX0_makeSmall_77 (p1 : Nat) (p2 : Nat) (p3 : Nat) (Q : CS → Prop) (N77 : Int32 → CS → Prop) (i4 : Int32) (σ : CS) : Prop :=
  ((cD σ p1) < i4 →
    Q σ) ∧
  (¬ (cD σ p1) < i4 →
    vp_in i4 (tlen p1) ∧ (
    wpX3_product 321 (16 * p1 + i4.toNatClampNeg) 320 σ (fun (σ3 : CS) =>
      wpX3_divide 321 323 322 σ3 (fun (σ5 : CS) =>
        vp_in i4 (tlen p1) ∧ (
        wpX3_load (16 * p1 + i4.toNatClampNeg) 322 σ5 (fun (σ8 : CS) =>
          ∀ a9 : Int32, a9 = i4 + (1 : Int32) →
          N77 a9 σ8))))))
set_option maxRecDepth 100000 in
set_option maxHeartbeats 4000000 in
theorem wX0_makeSmall_77 {p : Program} {l : Launch} {e : Env} {s : State} {m : MethodId} {args : Array Value} {below : List Frame} {meth : Method} {c : Code} {D : va_G} {A : Nat → Prop} {g : mG} (hg : inj g) {p1 : Nat} {p2 : Nat} {p3 : Nat} (hp1 : p1 < 20) (hp2 : p2 < 20) (hp3 : p3 < 20) (X : cx p m meth c s args cX0_makeSmall 5 RX0 D (tyG g)) (hr : meth.sig.returnType = none) {Q : CS → Prop} : ∀ (n : Nat) (i4 : Int32) (σ : CS), lq2 (wbX0_makeSmall_77 p1 p2 p3 Q) n i4 σ → cW p l e rmX0_makeSmall s m args below meth c (MQ below (va_Qv Q (fun u t => wd D A (cT g u) t.heap) A) args s 0 0 A) D A (cT g σ) 77 5 [(0, .ref (g.1 2002)), (1, .ref (g.1 (4 * p1 + 2))), (2, .ref (g.1 (4 * p2 + 2))), (3, .ref (g.1 (4 * p3 + 2))), (4, .int i4)] := by
  obtain ⟨hx, hb, hml, hown, hts, hK, hlk⟩ := id X
  intro n
  induction n with
  | zero =>
    intro i4 σ h
    exact h.elim
  | succ n hN77 =>
    intro i4 σ h H locs ls hw hS hl
    replace h : wbX0_makeSmall_77 p1 p2 p3 Q (lq2 (wbX0_makeSmall_77 p1 p2 p3 Q) n) i4 σ := h
    unfold wbX0_makeSmall_77 at h
    refine lv_iload hx hb dX0_makeSmall_77 (lv_at hl 4 rfl) ?_
    refine lv_aload_n hx hb dX0_makeSmall_79 rfl (lv_at hl 1 rfl) ?_
    refine m_getN (v := .int (cD σ p1)) X hw (tP hp1) rfl inA_X2 1 (by decide) (List.mem_append_left _ (List.mem_map.mpr ⟨_, List.mem_of_getElem? (i := 8) rfl, rfl⟩)) rfl dX0_makeSmall_80 ?_
    refine lv_icmp_gt (tgt := 139) hx hb dX0_makeSmall_83 (by decide) (fun hc => ?_) (fun hc => ?_)
    · replace h := h.1 hc
      exact m_vret X hr hw hS h dX0_makeSmall_139
    · replace h := h.2 hc
      refine lv_aload_n hx hb dX0_makeSmall_86 rfl (lv_at hl 0 rfl) ?_
      refine m_get (v := .ref (g.1 (4 * 321))) X hw tB rfl inA_X0 3 (by decide) mw_64 rfl dX0_makeSmall_87 ?_
      refine lv_aload_n hx hb dX0_makeSmall_90 rfl (lv_at hl 1 rfl) ?_
      refine m_getN (v := .ref (g.1 (4 * p1 + 3))) X hw (tP hp1) rfl inA_X2 0 (by decide) (List.mem_append_left _ (List.mem_map.mpr ⟨_, List.mem_of_getElem? (i := 9) rfl, rfl⟩)) rfl dX0_makeSmall_91 ?_
      refine lv_iload hx hb dX0_makeSmall_94 (lv_at hl 4 rfl) ?_
      obtain ⟨hi1, h⟩ := h
      refine m_aald X hw (tT hp1) 2 rfl hi1 dX0_makeSmall_96 ?_
      refine lv_aload_n hx hb dX0_makeSmall_97 rfl (lv_at hl 0 rfl) ?_
      refine m_get (v := .ref (g.1 (4 * 320))) X hw tB rfl inA_X0 2 (by decide) mw_63 rfl dX0_makeSmall_98 ?_
      refine m_cVv (TT := cT g) (As := [.ref (g.1 (4 * (16 * p1 + i4.toNatClampNeg))), .ref (g.1 (4 * 320))]) (rest := []) X hl.1 hw hS (kX3_product hg (okW_b (by decide)) (okW_t hp1 hi1) (okW_b (by decide)) h) mw_255 fX3_product (tW (okW_b (by decide))) rfl rfl ⟨rfl, rfl, Nat.le_of_ble_eq_true rfl, Nat.le_of_ble_eq_true rfl⟩ rfl rfl (Nat.le_of_ble_eq_true rfl) dX0_makeSmall_101 (fun σ3 H locs h hw hS => ?_)
      refine lv_aload_n hx hb dX0_makeSmall_104 rfl (lv_at hl 0 rfl) ?_
      refine m_get (v := .ref (g.1 (4 * 321))) X hw tB rfl inA_X0 3 (by decide) mw_64 rfl dX0_makeSmall_105 ?_
      refine lv_aload_n hx hb dX0_makeSmall_108 rfl (lv_at hl 0 rfl) ?_
      refine m_get (v := .ref (g.1 (4 * 323))) X hw tB rfl inA_X0 5 (by decide) mw_66 rfl dX0_makeSmall_109 ?_
      refine lv_aload_n hx hb dX0_makeSmall_112 rfl (lv_at hl 0 rfl) ?_
      refine m_get (v := .ref (g.1 (4 * 322))) X hw tB rfl inA_X0 4 (by decide) mw_65 rfl dX0_makeSmall_113 ?_
      refine m_cVv (TT := cT g) (As := [.ref (g.1 (4 * 323)), .ref (g.1 (4 * 322))]) (rest := []) X hl.1 hw hS (kX3_divide hg (okW_b (by decide)) (okW_b (by decide)) (okW_b (by decide)) h) mw_356 fX3_divide (tW (okW_b (by decide))) rfl rfl ⟨rfl, rfl, Nat.le_of_ble_eq_true rfl, Nat.le_of_ble_eq_true rfl⟩ rfl rfl (Nat.le_of_ble_eq_true rfl) dX0_makeSmall_116 (fun σ5 H locs h hw hS => ?_)
      refine lv_aload_n hx hb dX0_makeSmall_119 rfl (lv_at hl 1 rfl) ?_
      refine m_getN (v := .ref (g.1 (4 * p1 + 3))) X hw (tP hp1) rfl inA_X2 0 (by decide) (List.mem_append_left _ (List.mem_map.mpr ⟨_, List.mem_of_getElem? (i := 9) rfl, rfl⟩)) rfl dX0_makeSmall_120 ?_
      refine lv_iload hx hb dX0_makeSmall_123 (lv_at hl 4 rfl) ?_
      obtain ⟨hi6, h⟩ := h
      refine m_aald X hw (tT hp1) 2 rfl hi6 dX0_makeSmall_125 ?_
      refine lv_aload_n hx hb dX0_makeSmall_126 rfl (lv_at hl 0 rfl) ?_
      refine m_get (v := .ref (g.1 (4 * 322))) X hw tB rfl inA_X0 4 (by decide) mw_65 rfl dX0_makeSmall_127 ?_
      refine m_cVv (TT := cT g) (As := [.ref (g.1 (4 * 322))]) (rest := []) X hl.1 hw hS (kX3_load hg (okW_t hp1 hi6) (okW_b (by decide)) h) mw_308 fX3_load (tW (okW_t hp1 hi6)) rfl rfl ⟨rfl, rfl, Nat.le_of_ble_eq_true rfl, Nat.le_of_ble_eq_true rfl⟩ rfl rfl (Nat.le_of_ble_eq_true rfl) dX0_makeSmall_130 (fun σ8 H locs h hw hS => ?_)
      obtain ⟨a9, ea9⟩ : ∃ z : Int32, z = i4 + (1 : Int32) := ⟨_, rfl⟩
      replace h := h a9 ea9
      refine lv_iinc (v := a9) (lv' := [(4, .int a9), (0, .ref (g.1 2002)), (1, .ref (g.1 (4 * p1 + 2))), (2, .ref (g.1 (4 * p2 + 2))), (3, .ref (g.1 (4 * p3 + 2)))]) hx hb dX0_makeSmall_133 hl (k := 4) rfl (by rw [ea9]; rfl) (by decide) rfl (fun ls hl => ?_)
      refine lv_goto (tgt := 77) hx hb dX0_makeSmall_136 (by decide) ?_
      exact hN77 a9 _ h H locs ls hw hS (lv_sub hl [1, 2, 3, 4, 0] rfl)
def wpX0_makeSmall_0 (p1 : Nat) (p2 : Nat) (p3 : Nat) (Q : CS → Prop) (σ : CS) : Prop :=
  ((cD σ p1) < 0 →
    Q σ) ∧
  (¬ (cD σ p1) < 0 →
    ((cD σ p2) < 0 →
      Q σ) ∧
    (¬ (cD σ p2) < 0 →
      (0 ≤ (cD σ p3) →
        vp_in (cD σ p2) (tlen p2) ∧ (
        wpX3_load 320 (16 * p2 + (cD σ p2).toNatClampNeg) σ (fun (σ12 : CS) =>
          vp_in (cD σ12 p3) (tlen p3) ∧ (
          wpX3_load 321 (16 * p3 + (cD σ12 p3).toNatClampNeg) σ12 (fun (σ15 : CS) =>
            wpX0_meet σ15 (fun (σ17 : CS) =>
              vp_in (cD σ17 p1) (tlen p1) ∧ (
              wpX3_load 323 (16 * p1 + (cD σ17 p1).toNatClampNeg) σ17 (fun (σ20 : CS) =>
                ∃ n, lq2 (wbX0_makeSmall_77 p1 p2 p3 Q) n (0 : Int32) σ20)))))))) ∧
      (¬ 0 ≤ (cD σ p3) →
        Q σ)))
set_option maxRecDepth 100000 in
set_option maxHeartbeats 4000000 in
theorem wX0_makeSmall_0 {p : Program} {l : Launch} {e : Env} {s : State} {m : MethodId} {args : Array Value} {below : List Frame} {meth : Method} {c : Code} {D : va_G} {A : Nat → Prop} {g : mG} (hg : inj g) {p1 : Nat} {p2 : Nat} {p3 : Nat} (hp1 : p1 < 20) (hp2 : p2 < 20) (hp3 : p3 < 20) (X : cx p m meth c s args cX0_makeSmall 5 RX0 D (tyG g)) (hr : meth.sig.returnType = none) {Q : CS → Prop} : ∀ (σ : CS), wpX0_makeSmall_0 p1 p2 p3 Q σ → cW p l e rmX0_makeSmall s m args below meth c (MQ below (va_Qv Q (fun u t => wd D A (cT g u) t.heap) A) args s 0 0 A) D A (cT g σ) 0 5 [(0, .ref (g.1 2002)), (1, .ref (g.1 (4 * p1 + 2))), (2, .ref (g.1 (4 * p2 + 2))), (3, .ref (g.1 (4 * p3 + 2)))] := by
  obtain ⟨hx, hb, hml, hown, hts, hK, hlk⟩ := id X
  intro σ h H locs ls hw hS hl
  unfold wpX0_makeSmall_0 at h
  refine lv_aload_n hx hb dX0_makeSmall_0 rfl (lv_at hl 1 rfl) ?_
  refine m_getN (v := .int (cD σ p1)) X hw (tP hp1) rfl inA_X2 1 (by decide) (List.mem_append_left _ (List.mem_map.mpr ⟨_, List.mem_of_getElem? (i := 8) rfl, rfl⟩)) rfl dX0_makeSmall_1 ?_
  refine lv_if_lt (tgt := 21) hx hb dX0_makeSmall_4 (by decide) (fun hc => ?_) (fun hc => ?_)
  · replace h := h.1 hc
    exact m_vret X hr hw hS h dX0_makeSmall_21
  · replace h := h.2 hc
    refine lv_aload_n hx hb dX0_makeSmall_7 rfl (lv_at hl 2 rfl) ?_
    refine m_getN (v := .int (cD σ p2)) X hw (tP hp2) rfl inA_X2 1 (by decide) (List.mem_append_left _ (List.mem_map.mpr ⟨_, List.mem_of_getElem? (i := 8) rfl, rfl⟩)) rfl dX0_makeSmall_8 ?_
    refine lv_if_lt (tgt := 21) hx hb dX0_makeSmall_11 (by decide) (fun hc => ?_) (fun hc => ?_)
    · replace h := h.1 hc
      exact m_vret X hr hw hS h dX0_makeSmall_21
    · replace h := h.2 hc
      refine lv_aload_n hx hb dX0_makeSmall_14 rfl (lv_at hl 3 rfl) ?_
      refine m_getN (v := .int (cD σ p3)) X hw (tP hp3) rfl inA_X2 1 (by decide) (List.mem_append_left _ (List.mem_map.mpr ⟨_, List.mem_of_getElem? (i := 8) rfl, rfl⟩)) rfl dX0_makeSmall_15 ?_
      refine lv_if_ge (tgt := 22) hx hb dX0_makeSmall_18 (by decide) (fun hc => ?_) (fun hc => ?_)
      · replace h := h.1 hc
        refine lv_aload_n hx hb dX0_makeSmall_22 rfl (lv_at hl 0 rfl) ?_
        refine m_get (v := .ref (g.1 (4 * 320))) X hw tB rfl inA_X0 2 (by decide) mw_63 rfl dX0_makeSmall_23 ?_
        refine lv_aload_n hx hb dX0_makeSmall_26 rfl (lv_at hl 2 rfl) ?_
        refine m_getN (v := .ref (g.1 (4 * p2 + 3))) X hw (tP hp2) rfl inA_X2 0 (by decide) (List.mem_append_left _ (List.mem_map.mpr ⟨_, List.mem_of_getElem? (i := 9) rfl, rfl⟩)) rfl dX0_makeSmall_27 ?_
        refine lv_aload_n hx hb dX0_makeSmall_30 rfl (lv_at hl 2 rfl) ?_
        refine m_getN (v := .int (cD σ p2)) X hw (tP hp2) rfl inA_X2 1 (by decide) (List.mem_append_left _ (List.mem_map.mpr ⟨_, List.mem_of_getElem? (i := 8) rfl, rfl⟩)) rfl dX0_makeSmall_31 ?_
        obtain ⟨hi10, h⟩ := h
        refine m_aald X hw (tT hp2) 2 rfl hi10 dX0_makeSmall_34 ?_
        refine m_cVv (TT := cT g) (As := [.ref (g.1 (4 * (16 * p2 + (cD σ p2).toNatClampNeg)))]) (rest := []) X hl.1 hw hS (kX3_load hg (okW_b (by decide)) (okW_t hp2 hi10) h) mw_308 fX3_load (tW (okW_b (by decide))) rfl rfl ⟨rfl, rfl, Nat.le_of_ble_eq_true rfl, Nat.le_of_ble_eq_true rfl⟩ rfl rfl (Nat.le_of_ble_eq_true rfl) dX0_makeSmall_35 (fun σ12 H locs h hw hS => ?_)
        refine lv_aload_n hx hb dX0_makeSmall_38 rfl (lv_at hl 0 rfl) ?_
        refine m_get (v := .ref (g.1 (4 * 321))) X hw tB rfl inA_X0 3 (by decide) mw_64 rfl dX0_makeSmall_39 ?_
        refine lv_aload_n hx hb dX0_makeSmall_42 rfl (lv_at hl 3 rfl) ?_
        refine m_getN (v := .ref (g.1 (4 * p3 + 3))) X hw (tP hp3) rfl inA_X2 0 (by decide) (List.mem_append_left _ (List.mem_map.mpr ⟨_, List.mem_of_getElem? (i := 9) rfl, rfl⟩)) rfl dX0_makeSmall_43 ?_
        refine lv_aload_n hx hb dX0_makeSmall_46 rfl (lv_at hl 3 rfl) ?_
        refine m_getN (v := .int (cD σ12 p3)) X hw (tP hp3) rfl inA_X2 1 (by decide) (List.mem_append_left _ (List.mem_map.mpr ⟨_, List.mem_of_getElem? (i := 8) rfl, rfl⟩)) rfl dX0_makeSmall_47 ?_
        obtain ⟨hi13, h⟩ := h
        refine m_aald X hw (tT hp3) 2 rfl hi13 dX0_makeSmall_50 ?_
        refine m_cVv (TT := cT g) (As := [.ref (g.1 (4 * (16 * p3 + (cD σ12 p3).toNatClampNeg)))]) (rest := []) X hl.1 hw hS (kX3_load hg (okW_b (by decide)) (okW_t hp3 hi13) h) mw_308 fX3_load (tW (okW_b (by decide))) rfl rfl ⟨rfl, rfl, Nat.le_of_ble_eq_true rfl, Nat.le_of_ble_eq_true rfl⟩ rfl rfl (Nat.le_of_ble_eq_true rfl) dX0_makeSmall_51 (fun σ15 H locs h hw hS => ?_)
        refine lv_aload_n hx hb dX0_makeSmall_54 rfl (lv_at hl 0 rfl) ?_
        refine m_cVv (TT := cT g) (As := []) (rest := []) X hl.1 hw hS (kX0_meet hg h) mw_416 fX0_meet tB rfl rfl ⟨rfl, rfl, Nat.le_of_ble_eq_true rfl, Nat.le_of_ble_eq_true rfl⟩ rfl rfl (Nat.le_of_ble_eq_true rfl) dX0_makeSmall_55 (fun σ17 H locs h hw hS => ?_)
        refine lv_aload_n hx hb dX0_makeSmall_58 rfl (lv_at hl 0 rfl) ?_
        refine m_get (v := .ref (g.1 (4 * 323))) X hw tB rfl inA_X0 5 (by decide) mw_66 rfl dX0_makeSmall_59 ?_
        refine lv_aload_n hx hb dX0_makeSmall_62 rfl (lv_at hl 1 rfl) ?_
        refine m_getN (v := .ref (g.1 (4 * p1 + 3))) X hw (tP hp1) rfl inA_X2 0 (by decide) (List.mem_append_left _ (List.mem_map.mpr ⟨_, List.mem_of_getElem? (i := 9) rfl, rfl⟩)) rfl dX0_makeSmall_63 ?_
        refine lv_aload_n hx hb dX0_makeSmall_66 rfl (lv_at hl 1 rfl) ?_
        refine m_getN (v := .int (cD σ17 p1)) X hw (tP hp1) rfl inA_X2 1 (by decide) (List.mem_append_left _ (List.mem_map.mpr ⟨_, List.mem_of_getElem? (i := 8) rfl, rfl⟩)) rfl dX0_makeSmall_67 ?_
        obtain ⟨hi18, h⟩ := h
        refine m_aald X hw (tT hp1) 2 rfl hi18 dX0_makeSmall_70 ?_
        refine m_cVv (TT := cT g) (As := [.ref (g.1 (4 * (16 * p1 + (cD σ17 p1).toNatClampNeg)))]) (rest := []) X hl.1 hw hS (kX3_load hg (okW_b (by decide)) (okW_t hp1 hi18) h) mw_308 fX3_load (tW (okW_b (by decide))) rfl rfl ⟨rfl, rfl, Nat.le_of_ble_eq_true rfl, Nat.le_of_ble_eq_true rfl⟩ rfl rfl (Nat.le_of_ble_eq_true rfl) dX0_makeSmall_71 (fun σ20 H locs h hw hS => ?_)
        refine lv_iconst (v := (0 : Int32)) hx hb dX0_makeSmall_74 (by decide) ?_
        refine lv_istore (lv' := [(4, .int (0 : Int32)), (0, .ref (g.1 2002)), (1, .ref (g.1 (4 * p1 + 2))), (2, .ref (g.1 (4 * p2 + 2))), (3, .ref (g.1 (4 * p3 + 2)))]) hx hb dX0_makeSmall_75 hl (by decide) rfl (fun ls hl => ?_)
        obtain ⟨n9, h⟩ := h
        exact wX0_makeSmall_77 hg hp1 hp2 hp3 X hr n9 (0 : Int32) _ h H locs ls hw hS (lv_sub hl [1, 2, 3, 4, 0] rfl)
      · replace h := h.2 hc
        exact m_vret X hr hw hS h dX0_makeSmall_21
def wpX0_makeSmall (p1 : Nat) (p2 : Nat) (p3 : Nat) (σ : CS) (Q : CS → Prop) : Prop := wpX0_makeSmall_0 p1 p2 p3 Q σ
theorem kX0_makeSmall {l : Launch} {D : va_G} {A : Nat → Prop} {g : mG} (hg : inj g) {p1 : Nat} {p2 : Nat} {p3 : Nat} (hp1 : p1 < 20) (hp2 : p2 < 20) (hp3 : p3 < 20) {σ : CS} {Q : CS → Prop} (h : wpX0_makeSmall p1 p2 p3 σ Q) : Met l yX0_makeSmall (Cond.code yX0_makeSmall cX0_makeSmall 5 none :: wsA) rmX0_makeSmall (mPc D (tyG g) A (cT g σ) [.ref (g.1 2002), .ref (g.1 (4 * p1 + 2)), .ref (g.1 (4 * p2 + 2)), .ref (g.1 (4 * p3 + 2))]) (va_Qv Q (fun u t => wd D A (cT g u) t.heap) A) 0 0 A :=
  m_met (by decide +kernel) (Nat.le_of_ble_eq_true rfl) (fun p e s m below meth c X hr H locs ls hw hS hl => wX0_makeSmall_0 hg hp1 hp2 hp3 X hr σ h H locs ls hw hS (lv_sub hl [0, 1, 2, 3] rfl))
theorem fX0_makeSmall : vfit yX0_makeSmall cX0_makeSmall 5 none 3 := ⟨mw_461, mw_462, mw_43, mw_463, by decide +kernel, by decide +kernel, by decide +kernel⟩
