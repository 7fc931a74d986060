/-! BigPolys$Bench.sum(LBigPolys$Poly;LBigPolys$Poly;I)V -/
def rmX0_sum : Room := { frames := 3, cells := 0, slots := 0, locals := 83 }
def wpX0_sum_54 (p1 : Nat) (p2 : Nat) (x3 : Int32) (Q : CS → Prop) (σ : CS) : Prop :=
  wpX2_measure 8 σ (fun (σ2 : CS) =>
    Q σ2)
set_option maxRecDepth 100000 in
set_option maxHeartbeats 4000000 in
theorem wX0_sum_54 {p : Program} {l : Launch} {e : Env} {s : State} {m : MethodId} {args : Array Value} {below : List Frame} {meth : Method} {c : Code} {D : va_G} {A : Nat → Prop} {g : mG} (hg : inj g) {p1 : Nat} {p2 : Nat} {x3 : Int32} (hp1 : p1 < 20) (hp2 : p2 < 20) (X : cx p m meth c s args cX0_sum 5 RX0 D (tyG g)) (hr : meth.sig.returnType = none) {Q : CS → Prop} : ∀ (σ : CS), wpX0_sum_54 p1 p2 x3 Q σ → cW p l e rmX0_sum s m args below meth c (MQ below (va_Qv Q (fun u t => wd D A (cT g u) t.heap) A) args s 0 0 A) D A (cT g σ) 54 5 [(0, .ref (g.1 2002)), (1, .ref (g.1 (4 * p1 + 2))), (2, .ref (g.1 (4 * p2 + 2))), (3, .int x3)] := by
  obtain ⟨hx, hb, hml, hown, hts, hK, hlk⟩ := id X
  intro σ h H locs ls hw hS hl
  unfold wpX0_sum_54 at h
  refine lv_aload_n hx hb dX0_sum_54 rfl (lv_at hl 0 rfl) ?_
  refine m_get (v := .ref (g.1 (4 * 8 + 2))) X hw tB rfl inA_X0 0 (by decide) mw_60 rfl dX0_sum_55 ?_
  refine m_cVv (TT := cT g) (As := []) (rest := []) X hl.1 hw hS (kX2_measure hg (by decide : (8 : Nat) < 20) h) mw_217 fX2_measure (tP (by decide : (8 : Nat) < 20)) rfl rfl ⟨rfl, rfl, Nat.le_of_ble_eq_true rfl, Nat.le_of_ble_eq_true rfl⟩ rfl rfl (Nat.le_of_ble_eq_true rfl) dX0_sum_58 (fun σ2 H locs h hw hS => ?_)
  exact m_vret X hr hw hS h dX0_sum_61
def wbX0_sum_11 (p1 : Nat) (p2 : Nat) (x3 : Int32) (Q : CS → Prop) (N11 : Int32 → CS → Prop) (i4 : Int32) (σ : CS) : Prop :=
  ((cD σ p2) < i4 →
    wpX0_sum_54 p1 p2 x3 Q σ) ∧
  (¬ (cD σ p2) < i4 →
    ((8 : Int32) < i4 →
      wpX0_sum_54 p1 p2 x3 Q σ) ∧
    (¬ (8 : Int32) < i4 →
      vp_in i4 (tlen 8) ∧ (
      vp_in i4 (tlen p2) ∧ (
      wpX3_plus (16 * 8 + i4.toNatClampNeg) (16 * p2 + i4.toNatClampNeg) x3 σ (fun (σ6 : CS) =>
        ∀ a7 : Int32, a7 = i4 + (1 : Int32) →
        N11 a7 σ6)))))
set_option maxRecDepth 100000 in
set_option maxHeartbeats 4000000 in
theorem wX0_sum_11 {p : Program} {l : Launch} {e : Env} {s : State} {m : MethodId} {args : Array Value} {below : List Frame} {meth : Method} {c : Code} {D : va_G} {A : Nat → Prop} {g : mG} (hg : inj g) {p1 : Nat} {p2 : Nat} {x3 : Int32} (hp1 : p1 < 20) (hp2 : p2 < 20) (X : cx p m meth c s args cX0_sum 5 RX0 D (tyG g)) (hr : meth.sig.returnType = none) {Q : CS → Prop} : ∀ (n : Nat) (i4 : Int32) (σ : CS), lq2 (wbX0_sum_11 p1 p2 x3 Q) n i4 σ → cW p l e rmX0_sum s m args below meth c (MQ below (va_Qv Q (fun u t => wd D A (cT g u) t.heap) A) args s 0 0 A) D A (cT g σ) 11 5 [(0, .ref (g.1 2002)), (1, .ref (g.1 (4 * p1 + 2))), (2, .ref (g.1 (4 * p2 + 2))), (3, .int x3), (4, .int i4)] := by
  obtain ⟨hx, hb, hml, hown, hts, hK, hlk⟩ := id X
  intro n
  induction n with
  | zero =>
    intro i4 σ h
    exact h.elim
  | succ n hN11 =>
    intro i4 σ h H locs ls hw hS hl
    replace h : wbX0_sum_11 p1 p2 x3 Q (lq2 (wbX0_sum_11 p1 p2 x3 Q) n) i4 σ := h
    unfold wbX0_sum_11 at h
    refine lv_iload hx hb dX0_sum_11 (lv_at hl 4 rfl) ?_
    refine lv_aload_n hx hb dX0_sum_13 rfl (lv_at hl 2 rfl) ?_
    refine m_getN (v := .int (cD σ p2)) X hw (tP hp2) rfl inA_X2 1 (by decide) (List.mem_append_left _ (List.mem_map.mpr ⟨_, List.mem_of_getElem? (i := 8) rfl, rfl⟩)) rfl dX0_sum_14 ?_
    refine lv_icmp_gt (tgt := 54) hx hb dX0_sum_17 (by decide) (fun hc => ?_) (fun hc => ?_)
    · replace h := h.1 hc
      exact wX0_sum_54 hg hp1 hp2 X hr _ h H locs ls hw hS (lv_sub hl [0, 1, 2, 3] rfl)
    · replace h := h.2 hc
      refine lv_iload hx hb dX0_sum_20 (lv_at hl 4 rfl) ?_
      refine lv_bipush (v := (8 : Int32)) hx hb dX0_sum_22 (by decide) ?_
      refine lv_icmp_gt (tgt := 54) hx hb dX0_sum_24 (by decide) (fun hc => ?_) (fun hc => ?_)
      · replace h := h.1 hc
        exact wX0_sum_54 hg hp1 hp2 X hr _ h H locs ls hw hS (lv_sub hl [0, 1, 2, 3] rfl)
      · replace h := h.2 hc
        refine lv_aload_n hx hb dX0_sum_27 rfl (lv_at hl 0 rfl) ?_
        refine m_get (v := .ref (g.1 (4 * 8 + 2))) X hw tB rfl inA_X0 0 (by decide) mw_60 rfl dX0_sum_28 ?_
        refine m_getN (v := .ref (g.1 (4 * 8 + 3))) X hw (tP (by decide : (8 : Nat) < 20)) rfl inA_X2 0 (by decide) (List.mem_append_left _ (List.mem_map.mpr ⟨_, List.mem_of_getElem? (i := 9) rfl, rfl⟩)) rfl dX0_sum_31 ?_
        refine lv_iload hx hb dX0_sum_34 (lv_at hl 4 rfl) ?_
        obtain ⟨hi3, h⟩ := h
        refine m_aald X hw (tT (by decide : (8 : Nat) < 20)) 2 rfl hi3 dX0_sum_36 ?_
        refine lv_aload_n hx hb dX0_sum_37 rfl (lv_at hl 2 rfl) ?_
        refine m_getN (v := .ref (g.1 (4 * p2 + 3))) X hw (tP hp2) rfl inA_X2 0 (by decide) (List.mem_append_left _ (List.mem_map.mpr ⟨_, List.mem_of_getElem? (i := 9) rfl, rfl⟩)) rfl dX0_sum_38 ?_
        refine lv_iload hx hb dX0_sum_41 (lv_at hl 4 rfl) ?_
        obtain ⟨hi4, h⟩ := h
        refine m_aald X hw (tT hp2) 2 rfl hi4 dX0_sum_43 ?_
        refine lv_iload_n hx hb dX0_sum_44 rfl (lv_at hl 3 rfl) ?_
        refine m_cVv (TT := cT g) (As := [.ref (g.1 (4 * (16 * p2 + i4.toNatClampNeg))), .int x3]) (rest := []) X hl.1 hw hS (kX3_plus hg (okW_t (by decide : (8 : Nat) < 20) hi3) (okW_t hp2 hi4) h) mw_197 fX3_plus (tW (okW_t (by decide : (8 : Nat) < 20) hi3)) rfl rfl ⟨rfl, rfl, Nat.le_of_ble_eq_true rfl, Nat.le_of_ble_eq_true rfl⟩ rfl rfl (Nat.le_of_ble_eq_true rfl) dX0_sum_45 (fun σ6 H locs h hw hS => ?_)
        obtain ⟨a7, ea7⟩ : ∃ z : Int32, z = i4 + (1 : Int32) := ⟨_, rfl⟩
        replace h := h a7 ea7
        refine lv_iinc (v := a7) (lv' := [(4, .int a7), (0, .ref (g.1 2002)), (1, .ref (g.1 (4 * p1 + 2))), (2, .ref (g.1 (4 * p2 + 2))), (3, .int x3)]) hx hb dX0_sum_48 hl (k := 4) rfl (by rw [ea7]; rfl) (by decide) rfl (fun ls hl => ?_)
        refine lv_goto (tgt := 11) hx hb dX0_sum_51 (by decide) ?_
        exact hN11 a7 _ h H locs ls hw hS (lv_sub hl [1, 2, 3, 4, 0] rfl)
def wpX0_sum_0 (p1 : Nat) (p2 : Nat) (x3 : Int32) (Q : CS → Prop) (σ : CS) : Prop :=
  wpX2_load 8 p1 σ (fun (σ9 : CS) =>
    ∃ n, lq2 (wbX0_sum_11 p1 p2 x3 Q) n (0 : Int32) σ9)
set_option maxRecDepth 100000 in
set_option maxHeartbeats 4000000 in
theorem wX0_sum_0 {p : Program} {l : Launch} {e : Env} {s : State} {m : MethodId} {args : Array Value} {below : List Frame} {meth : Method} {c : Code} {D : va_G} {A : Nat → Prop} {g : mG} (hg : inj g) {p1 : Nat} {p2 : Nat} {x3 : Int32} (hp1 : p1 < 20) (hp2 : p2 < 20) (X : cx p m meth c s args cX0_sum 5 RX0 D (tyG g)) (hr : meth.sig.returnType = none) {Q : CS → Prop} : ∀ (σ : CS), wpX0_sum_0 p1 p2 x3 Q σ → cW p l e rmX0_sum s m args below meth c (MQ below (va_Qv Q (fun u t => wd D A (cT g u) t.heap) A) args s 0 0 A) D A (cT g σ) 0 5 [(0, .ref (g.1 2002)), (1, .ref (g.1 (4 * p1 + 2))), (2, .ref (g.1 (4 * p2 + 2))), (3, .int x3)] := by
  obtain ⟨hx, hb, hml, hown, hts, hK, hlk⟩ := id X
  intro σ h H locs ls hw hS hl
  unfold wpX0_sum_0 at h
  refine lv_aload_n hx hb dX0_sum_0 rfl (lv_at hl 0 rfl) ?_
  refine m_get (v := .ref (g.1 (4 * 8 + 2))) X hw tB rfl inA_X0 0 (by decide) mw_60 rfl dX0_sum_1 ?_
  refine lv_aload_n hx hb dX0_sum_4 rfl (lv_at hl 1 rfl) ?_
  refine m_cVv (TT := cT g) (As := [.ref (g.1 (4 * p1 + 2))]) (rest := []) X hl.1 hw hS (kX2_load hg (by decide : (8 : Nat) < 20) hp1 h) mw_178 fX2_load (tP (by decide : (8 : Nat) < 20)) rfl rfl ⟨rfl, rfl, Nat.le_of_ble_eq_true rfl, Nat.le_of_ble_eq_true rfl⟩ rfl rfl (Nat.le_of_ble_eq_true rfl) dX0_sum_5 (fun σ9 H locs h hw hS => ?_)
  refine lv_iconst (v := (0 : Int32)) hx hb dX0_sum_8 (by decide) ?_
  refine lv_istore (lv' := [(4, .int (0 : Int32)), (0, .ref (g.1 2002)), (1, .ref (g.1 (4 * p1 + 2))), (2, .ref (g.1 (4 * p2 + 2))), (3, .int x3)]) hx hb dX0_sum_9 hl (by decide) rfl (fun ls hl => ?_)
  obtain ⟨n9, h⟩ := h
  exact wX0_sum_11 hg hp1 hp2 X hr n9 (0 : Int32) _ h H locs ls hw hS (lv_sub hl [1, 2, 3, 4, 0] rfl)
def wpX0_sum (p1 : Nat) (p2 : Nat) (x3 : Int32) (σ : CS) (Q : CS → Prop) : Prop := wpX0_sum_0 p1 p2 x3 Q σ
theorem kX0_sum {l : Launch} {D : va_G} {A : Nat → Prop} {g : mG} (hg : inj g) {p1 : Nat} {p2 : Nat} {x3 : Int32} (hp1 : p1 < 20) (hp2 : p2 < 20) {σ : CS} {Q : CS → Prop} (h : wpX0_sum p1 p2 x3 σ Q) : Met l yX0_sum (Cond.code yX0_sum cX0_sum 5 none :: wsA) rmX0_sum (mPc D (tyG g) A (cT g σ) [.ref (g.1 2002), .ref (g.1 (4 * p1 + 2)), .ref (g.1 (4 * p2 + 2)), .int x3]) (va_Qv Q (fun u t => wd D A (cT g u) t.heap) A) 0 0 A :=
  m_met (by decide +kernel) (Nat.le_of_ble_eq_true rfl) (fun p e s m below meth c X hr H locs ls hw hS hl => wX0_sum_0 hg hp1 hp2 X hr σ h H locs ls hw hS (lv_sub hl [0, 1, 2, 3] rfl))
theorem fX0_sum : vfit yX0_sum cX0_sum 5 none 3 := ⟨mw_175, mw_176, mw_43, mw_177, by decide +kernel, by decide +kernel, by decide +kernel⟩
/-! BigPolys$Bench.times(LBigPolys$Poly;LBigPolys$Poly;)V -/
def rmX0_times : Room := { frames := 3, cells := 0, slots := 0, locals := 77 }
def wpX0_times_84 (p1 : Nat) (p2 : Nat) (Q : CS → Prop) (N9 : Int32 → CS → Prop) (i3 : Int32) (σ : CS) : Prop :=
  ∀ a1 : Int32, a1 = i3 + (1 : Int32) →
  N9 a1 σ
set_option maxRecDepth 100000 in
set_option maxHeartbeats 4000000 in
theorem wX0_times_84 {p : Program} {l : Launch} {e : Env} {s : State} {m : MethodId} {args : Array Value} {below : List Frame} {meth : Method} {c : Code} {D : va_G} {A : Nat → Prop} {g : mG} (hg : inj g) {p1 : Nat} {p2 : Nat} (hp1 : p1 < 20) (hp2 : p2 < 20) (X : cx p m meth c s args cX0_times 5 RX0 D (tyG g)) (hr : meth.sig.returnType = none) {Q : CS → Prop} {N9 : Int32 → CS → Prop} (hN9 : ∀ (i3 : Int32) (σ : CS), N9 i3 σ → cW p l e rmX0_times s m args below meth c (MQ below (va_Qv Q (fun u t => wd D A (cT g u) t.heap) A) args s 0 0 A) D A (cT g σ) 9 5 [(0, .ref (g.1 2002)), (1, .ref (g.1 (4 * p1 + 2))), (2, .ref (g.1 (4 * p2 + 2))), (3, .int i3)]) : ∀ (i3 : Int32) (σ : CS), wpX0_times_84 p1 p2 Q N9 i3 σ → cW p l e rmX0_times s m args below meth c (MQ below (va_Qv Q (fun u t => wd D A (cT g u) t.heap) A) args s 0 0 A) D A (cT g σ) 84 5 [(0, .ref (g.1 2002)), (1, .ref (g.1 (4 * p1 + 2))), (2, .ref (g.1 (4 * p2 + 2))), (3, .int i3)] := by
  obtain ⟨hx, hb, hml, hown, hts, hK, hlk⟩ := id X
  intro i3 σ h H locs ls hw hS hl
  unfold wpX0_times_84 at h
  obtain ⟨a1, ea1⟩ : ∃ z : Int32, z = i3 + (1 : Int32) := ⟨_, rfl⟩
  replace h := h a1 ea1
  refine lv_iinc (v := a1) (lv' := [(3, .int a1), (0, .ref (g.1 2002)), (1, .ref (g.1 (4 * p1 + 2))), (2, .ref (g.1 (4 * p2 + 2)))]) hx hb dX0_times_84 hl (k := 3) rfl (by rw [ea1]; rfl) (by decide) rfl (fun ls hl => ?_)
  refine lv_goto (tgt := 9) hx hb dX0_times_87 (by decide) ?_
  exact hN9 a1 _ h H locs ls hw hS (lv_sub hl [1, 2, 3, 0] rfl)
def wbX0_times_20 (p1 : Nat) (p2 : Nat) (Q : CS → Prop) (N9 : Int32 → CS → Prop) (N20 : Int32 → Int32 → CS → Prop) (i3 : Int32) (i4 : Int32) (σ : CS) : Prop :=
  ((cD σ p2) < i4 →
    wpX0_times_84 p1 p2 Q N9 i3 σ) ∧
  (¬ (cD σ p2) < i4 →
    ((8 : Int32) < (i3 + i4) →
      wpX0_times_84 p1 p2 Q N9 i3 σ) ∧
    (¬ (8 : Int32) < (i3 + i4) →
      vp_in i3 (tlen p1) ∧ (
      vp_in i4 (tlen p2) ∧ (
      wpX3_product 320 (16 * p1 + i3.toNatClampNeg) (16 * p2 + i4.toNatClampNeg) σ (fun (σ5 : CS) =>
        vp_in (i3 + i4) (tlen 8) ∧ (
        wpX3_plus (16 * 8 + (i3 + i4).toNatClampNeg) 320 (1 : Int32) σ5 (fun (σ8 : CS) =>
          ∀ a9 : Int32, a9 = i4 + (1 : Int32) →
          N20 i3 a9 σ8)))))))
set_option maxRecDepth 100000 in
set_option maxHeartbeats 4000000 in
theorem wX0_times_20 {p : Program} {l : Launch} {e : Env} {s : State} {m : MethodId} {args : Array Value} {below : List Frame} {meth : Method} {c : Code} {D : va_G} {A : Nat → Prop} {g : mG} (hg : inj g) {p1 : Nat} {p2 : Nat} (hp1 : p1 < 20) (hp2 : p2 < 20) (X : cx p m meth c s args cX0_times 5 RX0 D (tyG g)) (hr : meth.sig.returnType = none) {Q : CS → Prop} {N9 : Int32 → CS → Prop} (hN9 : ∀ (i3 : Int32) (σ : CS), N9 i3 σ → cW p l e rmX0_times s m args below meth c (MQ below (va_Qv Q (fun u t => wd D A (cT g u) t.heap) A) args s 0 0 A) D A (cT g σ) 9 5 [(0, .ref (g.1 2002)), (1, .ref (g.1 (4 * p1 + 2))), (2, .ref (g.1 (4 * p2 + 2))), (3, .int i3)]) : ∀ (n : Nat) (i3 : Int32) (i4 : Int32) (σ : CS), lq3 (wbX0_times_20 p1 p2 Q N9) n i3 i4 σ → cW p l e rmX0_times s m args below meth c (MQ below (va_Qv Q (fun u t => wd D A (cT g u) t.heap) A) args s 0 0 A) D A (cT g σ) 20 5 [(0, .ref (g.1 2002)), (1, .ref (g.1 (4 * p1 + 2))), (2, .ref (g.1 (4 * p2 + 2))), (3, .int i3), (4, .int i4)] := by
  obtain ⟨hx, hb, hml, hown, hts, hK, hlk⟩ := id X
  intro n
  induction n with
  | zero =>
    intro i3 i4 σ h
    exact h.elim
  | succ n hN20 =>
    intro i3 i4 σ h H locs ls hw hS hl
    replace h : wbX0_times_20 p1 p2 Q N9 (lq3 (wbX0_times_20 p1 p2 Q N9) n) i3 i4 σ := h
    unfold wbX0_times_20 at h
    refine lv_iload hx hb dX0_times_20 (lv_at hl 4 rfl) ?_
    refine lv_aload_n hx hb dX0_times_22 rfl (lv_at hl 2 rfl) ?_
    refine m_getN (v := .int (cD σ p2)) X hw (tP hp2) rfl inA_X2 1 (by decide) (List.mem_append_left _ (List.mem_map.mpr ⟨_, List.mem_of_getElem? (i := 8) rfl, rfl⟩)) rfl dX0_times_23 ?_
    refine lv_icmp_gt (tgt := 84) hx hb dX0_times_26 (by decide) (fun hc => ?_) (fun hc => ?_)
    · replace h := h.1 hc
      exact wX0_times_84 hg hp1 hp2 X hr hN9 i3 _ h H locs ls hw hS (lv_sub hl [0, 1, 2, 3] rfl)
    · replace h := h.2 hc
      refine lv_iload_n hx hb dX0_times_29 rfl (lv_at hl 3 rfl) ?_
      refine lv_iload hx hb dX0_times_30 (lv_at hl 4 rfl) ?_
      refine lv_iadd hx hb dX0_times_32 ?_
      refine lv_bipush (v := (8 : Int32)) hx hb dX0_times_33 (by decide) ?_
      refine lv_icmp_gt (tgt := 84) hx hb dX0_times_35 (by decide) (fun hc => ?_) (fun hc => ?_)
      · replace h := h.1 hc
        exact wX0_times_84 hg hp1 hp2 X hr hN9 i3 _ h H locs ls hw hS (lv_sub hl [0, 1, 2, 3] rfl)
      · replace h := h.2 hc
        refine lv_aload_n hx hb dX0_times_38 rfl (lv_at hl 0 rfl) ?_
        refine m_get (v := .ref (g.1 (4 * 320))) X hw tB rfl inA_X0 2 (by decide) mw_63 rfl dX0_times_39 ?_
        refine lv_aload_n hx hb dX0_times_42 rfl (lv_at hl 1 rfl) ?_
        refine m_getN (v := .ref (g.1 (4 * p1 + 3))) X hw (tP hp1) rfl inA_X2 0 (by decide) (List.mem_append_left _ (List.mem_map.mpr ⟨_, List.mem_of_getElem? (i := 9) rfl, rfl⟩)) rfl dX0_times_43 ?_
        refine lv_iload_n hx hb dX0_times_46 rfl (lv_at hl 3 rfl) ?_
        obtain ⟨hi2, h⟩ := h
        refine m_aald X hw (tT hp1) 2 rfl hi2 dX0_times_47 ?_
        refine lv_aload_n hx hb dX0_times_48 rfl (lv_at hl 2 rfl) ?_
        refine m_getN (v := .ref (g.1 (4 * p2 + 3))) X hw (tP hp2) rfl inA_X2 0 (by decide) (List.mem_append_left _ (List.mem_map.mpr ⟨_, List.mem_of_getElem? (i := 9) rfl, rfl⟩)) rfl dX0_times_49 ?_
        refine lv_iload hx hb dX0_times_52 (lv_at hl 4 rfl) ?_
        obtain ⟨hi3, h⟩ := h
        refine m_aald X hw (tT hp2) 2 rfl hi3 dX0_times_54 ?_
        refine m_cVv (TT := cT g) (As := [.ref (g.1 (4 * (16 * p1 + i3.toNatClampNeg))), .ref (g.1 (4 * (16 * p2 + i4.toNatClampNeg)))]) (rest := []) X hl.1 hw hS (kX3_product hg (okW_b (by decide)) (okW_t hp1 hi2) (okW_t hp2 hi3) h) mw_255 fX3_product (tW (okW_b (by decide))) rfl rfl ⟨rfl, rfl, Nat.le_of_ble_eq_true rfl, Nat.le_of_ble_eq_true rfl⟩ rfl rfl (Nat.le_of_ble_eq_true rfl) dX0_times_55 (fun σ5 H locs h hw hS => ?_)
        refine lv_aload_n hx hb dX0_times_58 rfl (lv_at hl 0 rfl) ?_
        refine m_get (v := .ref (g.1 (4 * 8 + 2))) X hw tB rfl inA_X0 0 (by decide) mw_60 rfl dX0_times_59 ?_
        refine m_getN (v := .ref (g.1 (4 * 8 + 3))) X hw (tP (by decide : (8 : Nat) < 20)) rfl inA_X2 0 (by decide) (List.mem_append_left _ (List.mem_map.mpr ⟨_, List.mem_of_getElem? (i := 9) rfl, rfl⟩)) rfl dX0_times_62 ?_
        refine lv_iload_n hx hb dX0_times_65 rfl (lv_at hl 3 rfl) ?_
        refine lv_iload hx hb dX0_times_66 (lv_at hl 4 rfl) ?_
        refine lv_iadd hx hb dX0_times_68 ?_
        obtain ⟨hi6, h⟩ := h
        refine m_aald X hw (tT (by decide : (8 : Nat) < 20)) 2 rfl hi6 dX0_times_69 ?_
        refine lv_aload_n hx hb dX0_times_70 rfl (lv_at hl 0 rfl) ?_
        refine m_get (v := .ref (g.1 (4 * 320))) X hw tB rfl inA_X0 2 (by decide) mw_63 rfl dX0_times_71 ?_
        refine lv_iconst (v := (1 : Int32)) hx hb dX0_times_74 (by decide) ?_
        refine m_cVv (TT := cT g) (As := [.ref (g.1 (4 * 320)), .int (1 : Int32)]) (rest := []) X hl.1 hw hS (kX3_plus hg (okW_t (by decide : (8 : Nat) < 20) hi6) (okW_b (by decide)) h) mw_197 fX3_plus (tW (okW_t (by decide : (8 : Nat) < 20) hi6)) rfl rfl ⟨rfl, rfl, Nat.le_of_ble_eq_true rfl, Nat.le_of_ble_eq_true rfl⟩ rfl rfl (Nat.le_of_ble_eq_true rfl) dX0_times_75 (fun σ8 H locs h hw hS => ?_)
        obtain ⟨a9, ea9⟩ : ∃ z : Int32, z = i4 + (1 : Int32) := ⟨_, rfl⟩
        replace h := h a9 ea9
        refine lv_iinc (v := a9) (lv' := [(4, .int a9), (0, .ref (g.1 2002)), (1, .ref (g.1 (4 * p1 + 2))), (2, .ref (g.1 (4 * p2 + 2))), (3, .int i3)]) hx hb dX0_times_78 hl (k := 4) rfl (by rw [ea9]; rfl) (by decide) rfl (fun ls hl => ?_)
        refine lv_goto (tgt := 20) hx hb dX0_times_81 (by decide) ?_
        exact hN20 i3 a9 _ h H locs ls hw hS (lv_sub hl [1, 2, 3, 4, 0] rfl)
def wbX0_times_9 (p1 : Nat) (p2 : Nat) (Q : CS → Prop) (N9 : Int32 → CS → Prop) (i3 : Int32) (σ : CS) : Prop :=
  ((cD σ p1) < i3 →
    wpX2_measure 8 σ (fun (σ11 : CS) =>
      Q σ11)) ∧
  (¬ (cD σ p1) < i3 →
    ∃ n, lq3 (wbX0_times_20 p1 p2 Q N9) n i3 (0 : Int32) σ)
set_option maxRecDepth 100000 in
set_option maxHeartbeats 4000000 in
theorem wX0_times_9 {p : Program} {l : Launch} {e : Env} {s : State} {m : MethodId} {args : Array Value} {below : List Frame} {meth : Method} {c : Code} {D : va_G} {A : Nat → Prop} {g : mG} (hg : inj g) {p1 : Nat} {p2 : Nat} (hp1 : p1 < 20) (hp2 : p2 < 20) (X : cx p m meth c s args cX0_times 5 RX0 D (tyG g)) (hr : meth.sig.returnType = none) {Q : CS → Prop} : ∀ (n : Nat) (i3 : Int32) (σ : CS), lq2 (wbX0_times_9 p1 p2 Q) n i3 σ → cW p l e rmX0_times s m args below meth c (MQ below (va_Qv Q (fun u t => wd D A (cT g u) t.heap) A) args s 0 0 A) D A (cT g σ) 9 5 [(0, .ref (g.1 2002)), (1, .ref (g.1 (4 * p1 + 2))), (2, .ref (g.1 (4 * p2 + 2))), (3, .int i3)] := by
  obtain ⟨hx, hb, hml, hown, hts, hK, hlk⟩ := id X
  intro n
  induction n with
  | zero =>
    intro i3 σ h
    exact h.elim
  | succ n hN9 =>
    intro i3 σ h H locs ls hw hS hl
    replace h : wbX0_times_9 p1 p2 Q (lq2 (wbX0_times_9 p1 p2 Q) n) i3 σ := h
    unfold wbX0_times_9 at h
    refine lv_iload_n hx hb dX0_times_9 rfl (lv_at hl 3 rfl) ?_
    refine lv_aload_n hx hb dX0_times_10 rfl (lv_at hl 1 rfl) ?_
    refine m_getN (v := .int (cD σ p1)) X hw (tP hp1) rfl inA_X2 1 (by decide) (List.mem_append_left _ (List.mem_map.mpr ⟨_, List.mem_of_getElem? (i := 8) rfl, rfl⟩)) rfl dX0_times_11 ?_
    refine lv_icmp_gt (tgt := 90) hx hb dX0_times_14 (by decide) (fun hc => ?_) (fun hc => ?_)
    · replace h := h.1 hc
      refine lv_aload_n hx hb dX0_times_90 rfl (lv_at hl 0 rfl) ?_
      refine m_get (v := .ref (g.1 (4 * 8 + 2))) X hw tB rfl inA_X0 0 (by decide) mw_60 rfl dX0_times_91 ?_
      refine m_cVv (TT := cT g) (As := []) (rest := []) X hl.1 hw hS (kX2_measure hg (by decide : (8 : Nat) < 20) h) mw_217 fX2_measure (tP (by decide : (8 : Nat) < 20)) rfl rfl ⟨rfl, rfl, Nat.le_of_ble_eq_true rfl, Nat.le_of_ble_eq_true rfl⟩ rfl rfl (Nat.le_of_ble_eq_true rfl) dX0_times_94 (fun σ11 H locs h hw hS => ?_)
      exact m_vret X hr hw hS h dX0_times_97
    · replace h := h.2 hc
      refine lv_iconst (v := (0 : Int32)) hx hb dX0_times_17 (by decide) ?_
      refine lv_istore (lv' := [(4, .int (0 : Int32)), (0, .ref (g.1 2002)), (1, .ref (g.1 (4 * p1 + 2))), (2, .ref (g.1 (4 * p2 + 2))), (3, .int i3)]) hx hb dX0_times_18 hl (by decide) rfl (fun ls hl => ?_)
      obtain ⟨n9, h⟩ := h
      exact wX0_times_20 hg hp1 hp2 X hr hN9 n9 i3 (0 : Int32) _ h H locs ls hw hS (lv_sub hl [1, 2, 3, 4, 0] rfl)
def wpX0_times_0 (p1 : Nat) (p2 : Nat) (Q : CS → Prop) (σ : CS) : Prop :=
  wpX2_clear 8 σ (fun (σ13 : CS) =>
    ∃ n, lq2 (wbX0_times_9 p1 p2 Q) n (0 : Int32) σ13)
set_option maxRecDepth 100000 in
set_option maxHeartbeats 4000000 in
theorem wX0_times_0 {p : Program} {l : Launch} {e : Env} {s : State} {m : MethodId} {args : Array Value} {below : List Frame} {meth : Method} {c : Code} {D : va_G} {A : Nat → Prop} {g : mG} (hg : inj g) {p1 : Nat} {p2 : Nat} (hp1 : p1 < 20) (hp2 : p2 < 20) (X : cx p m meth c s args cX0_times 5 RX0 D (tyG g)) (hr : meth.sig.returnType = none) {Q : CS → Prop} : ∀ (σ : CS), wpX0_times_0 p1 p2 Q σ → cW p l e rmX0_times s m args below meth c (MQ below (va_Qv Q (fun u t => wd D A (cT g u) t.heap) A) args s 0 0 A) D A (cT g σ) 0 5 [(0, .ref (g.1 2002)), (1, .ref (g.1 (4 * p1 + 2))), (2, .ref (g.1 (4 * p2 + 2)))] := by
  obtain ⟨hx, hb, hml, hown, hts, hK, hlk⟩ := id X
  intro σ h H locs ls hw hS hl
  unfold wpX0_times_0 at h
  refine lv_aload_n hx hb dX0_times_0 rfl (lv_at hl 0 rfl) ?_
  refine m_get (v := .ref (g.1 (4 * 8 + 2))) X hw tB rfl inA_X0 0 (by decide) mw_60 rfl dX0_times_1 ?_
  refine m_cVv (TT := cT g) (As := []) (rest := []) X hl.1 hw hS (kX2_clear hg (by decide : (8 : Nat) < 20) h) mw_251 fX2_clear (tP (by decide : (8 : Nat) < 20)) rfl rfl ⟨rfl, rfl, Nat.le_of_ble_eq_true rfl, Nat.le_of_ble_eq_true rfl⟩ rfl rfl (Nat.le_of_ble_eq_true rfl) dX0_times_4 (fun σ13 H locs h hw hS => ?_)
  refine lv_iconst (v := (0 : Int32)) hx hb dX0_times_7 (by decide) ?_
  refine lv_istore_n (lv' := [(3, .int (0 : Int32)), (0, .ref (g.1 2002)), (1, .ref (g.1 (4 * p1 + 2))), (2, .ref (g.1 (4 * p2 + 2)))]) hx hb dX0_times_8 rfl hl (by decide) rfl (fun ls hl => ?_)
  obtain ⟨n9, h⟩ := h
  exact wX0_times_9 hg hp1 hp2 X hr n9 (0 : Int32) _ h H locs ls hw hS (lv_sub hl [1, 2, 3, 0] rfl)
def wpX0_times (p1 : Nat) (p2 : Nat) (σ : CS) (Q : CS → Prop) : Prop := wpX0_times_0 p1 p2 Q σ
theorem kX0_times {l : Launch} {D : va_G} {A : Nat → Prop} {g : mG} (hg : inj g) {p1 : Nat} {p2 : Nat} (hp1 : p1 < 20) (hp2 : p2 < 20) {σ : CS} {Q : CS → Prop} (h : wpX0_times p1 p2 σ Q) : Met l yX0_times (Cond.code yX0_times cX0_times 5 none :: wsA) rmX0_times (mPc D (tyG g) A (cT g σ) [.ref (g.1 2002), .ref (g.1 (4 * p1 + 2)), .ref (g.1 (4 * p2 + 2))]) (va_Qv Q (fun u t => wd D A (cT g u) t.heap) A) 0 0 A :=
  m_met (by decide +kernel) (Nat.le_of_ble_eq_true rfl) (fun p e s m below meth c X hr H locs ls hw hS hl => wX0_times_0 hg hp1 hp2 X hr σ h H locs ls hw hS (lv_sub hl [0, 1, 2] rfl))
theorem fX0_times : vfit yX0_times cX0_times 5 none 2 := ⟨mw_248, mw_249, mw_43, mw_250, by decide +kernel, by decide +kernel, by decide +kernel⟩
/-! BigPolys$Bench.move(LBigPolys$Poly;I)V -/
def rmX0_move : Room := { frames := 3, cells := 0, slots := 0, locals := 83 }
def wbX0_move_32 (p1 : Nat) (x2 : Int32) (Q : CS → Prop) (N10 : Int32 → CS → Prop) (N32 : Int32 → Int32 → CS → Prop) (i3 : Int32) (i4 : Int32) (σ : CS) : Prop :=
  (i4 < i3 →
    ∀ a1 : Int32, a1 = i3 + (1 : Int32) →
    N10 a1 σ) ∧
  (¬ i4 < i3 →
    vp_in (i4 + (1 : Int32)) (tlen 8) ∧ (
    wpX3_load 320 (16 * 8 + (i4 + (1 : Int32)).toNatClampNeg) σ (fun (σ4 : CS) =>
      wpX3_scale 320 x2.toInt64 σ4 (fun (σ6 : CS) =>
        vp_in i4 (tlen 8) ∧ (
        wpX3_plus (16 * 8 + i4.toNatClampNeg) 320 (1 : Int32) σ6 (fun (σ9 : CS) =>
          ∀ a10 : Int32, a10 = i4 + (-1 : Int32) →
          N32 i3 a10 σ9))))))
set_option maxRecDepth 100000 in
set_option maxHeartbeats 4000000 in
theorem wX0_move_32 {p : Program} {l : Launch} {e : Env} {s : State} {m : MethodId} {args : Array Value} {below : List Frame} {meth : Method} {c : Code} {D : va_G} {A : Nat → Prop} {g : mG} (hg : inj g) {p1 : Nat} {x2 : Int32} (hp1 : p1 < 20) (X : cx p m meth c s args cX0_move 5 RX0 D (tyG g)) (hr : meth.sig.returnType = none) {Q : CS → Prop} {N10 : Int32 → CS → Prop} (hN10 : ∀ (i3 : Int32) (σ : CS), N10 i3 σ → cW p l e rmX0_move s m args below meth c (MQ below (va_Qv Q (fun u t => wd D A (cT g u) t.heap) A) args s 0 0 A) D A (cT g σ) 10 5 [(0, .ref (g.1 2002)), (1, .ref (g.1 (4 * p1 + 2))), (2, .int x2), (3, .int i3)]) : ∀ (n : Nat) (i3 : Int32) (i4 : Int32) (σ : CS), lq3 (wbX0_move_32 p1 x2 Q N10) n i3 i4 σ → cW p l e rmX0_move s m args below meth c (MQ below (va_Qv Q (fun u t => wd D A (cT g u) t.heap) A) args s 0 0 A) D A (cT g σ) 32 5 [(0, .ref (g.1 2002)), (1, .ref (g.1 (4 * p1 + 2))), (2, .int x2), (3, .int i3), (4, .int i4)] := by
  obtain ⟨hx, hb, hml, hown, hts, hK, hlk⟩ := id X
  intro n
  induction n with
  | zero =>
    intro i3 i4 σ h
    exact h.elim
  | succ n hN32 =>
    intro i3 i4 σ h H locs ls hw hS hl
    replace h : wbX0_move_32 p1 x2 Q N10 (lq3 (wbX0_move_32 p1 x2 Q N10) n) i3 i4 σ := h
    unfold wbX0_move_32 at h
    refine lv_iload hx hb dX0_move_32 (lv_at hl 4 rfl) ?_
    refine lv_iload_n hx hb dX0_move_34 rfl (lv_at hl 3 rfl) ?_
    refine lv_icmp_lt (tgt := 90) hx hb dX0_move_35 (by decide) (fun hc => ?_) (fun hc => ?_)
    · replace h := h.1 hc
      obtain ⟨a1, ea1⟩ : ∃ z : Int32, z = i3 + (1 : Int32) := ⟨_, rfl⟩
      replace h := h a1 ea1
      refine lv_iinc (v := a1) (lv' := [(3, .int a1), (0, .ref (g.1 2002)), (1, .ref (g.1 (4 * p1 + 2))), (2, .int x2), (4, .int i4)]) hx hb dX0_move_90 hl (k := 3) rfl (by rw [ea1]; rfl) (by decide) rfl (fun ls hl => ?_)
      refine lv_goto (tgt := 10) hx hb dX0_move_93 (by decide) ?_
      exact hN10 a1 _ h H locs ls hw hS (lv_sub hl [1, 2, 3, 0] rfl)
    · replace h := h.2 hc
      refine lv_aload_n hx hb dX0_move_38 rfl (lv_at hl 0 rfl) ?_
      refine m_get (v := .ref (g.1 (4 * 320))) X hw tB rfl inA_X0 2 (by decide) mw_63 rfl dX0_move_39 ?_
      refine lv_aload_n hx hb dX0_move_42 rfl (lv_at hl 0 rfl) ?_
      refine m_get (v := .ref (g.1 (4 * 8 + 2))) X hw tB rfl inA_X0 0 (by decide) mw_60 rfl dX0_move_43 ?_
      refine m_getN (v := .ref (g.1 (4 * 8 + 3))) X hw (tP (by decide : (8 : Nat) < 20)) rfl inA_X2 0 (by decide) (List.mem_append_left _ (List.mem_map.mpr ⟨_, List.mem_of_getElem? (i := 9) rfl, rfl⟩)) rfl dX0_move_46 ?_
      refine lv_iload hx hb dX0_move_49 (lv_at hl 4 rfl) ?_
      refine lv_iconst (v := (1 : Int32)) hx hb dX0_move_51 (by decide) ?_
      refine lv_iadd hx hb dX0_move_52 ?_
      obtain ⟨hi2, h⟩ := h
      refine m_aald X hw (tT (by decide : (8 : Nat) < 20)) 2 rfl hi2 dX0_move_53 ?_
      refine m_cVv (TT := cT g) (As := [.ref (g.1 (4 * (16 * 8 + (i4 + (1 : Int32)).toNatClampNeg)))]) (rest := []) X hl.1 hw hS (kX3_load hg (okW_b (by decide)) (okW_t (by decide : (8 : Nat) < 20) hi2) h) mw_308 fX3_load (tW (okW_b (by decide))) rfl rfl ⟨rfl, rfl, Nat.le_of_ble_eq_true rfl, Nat.le_of_ble_eq_true rfl⟩ rfl rfl (Nat.le_of_ble_eq_true rfl) dX0_move_54 (fun σ4 H locs h hw hS => ?_)
      refine lv_aload_n hx hb dX0_move_57 rfl (lv_at hl 0 rfl) ?_
      refine m_get (v := .ref (g.1 (4 * 320))) X hw tB rfl inA_X0 2 (by decide) mw_63 rfl dX0_move_58 ?_
      refine lv_iload_n hx hb dX0_move_61 rfl (lv_at hl 2 rfl) ?_
      refine lv_i2l (v := x2.toInt64) hx hb dX0_move_62 rfl ?_
      refine m_cVv (TT := cT g) (As := [.long x2.toInt64]) (rest := []) X hl.1 hw hS (kX3_scale hg (okW_b (by decide)) h) mw_309 fX3_scale (tW (okW_b (by decide))) rfl rfl ⟨rfl, rfl, Nat.le_of_ble_eq_true rfl, Nat.le_of_ble_eq_true rfl⟩ rfl rfl (Nat.le_of_ble_eq_true rfl) dX0_move_63 (fun σ6 H locs h hw hS => ?_)
      refine lv_aload_n hx hb dX0_move_66 rfl (lv_at hl 0 rfl) ?_
      refine m_get (v := .ref (g.1 (4 * 8 + 2))) X hw tB rfl inA_X0 0 (by decide) mw_60 rfl dX0_move_67 ?_
      refine m_getN (v := .ref (g.1 (4 * 8 + 3))) X hw (tP (by decide : (8 : Nat) < 20)) rfl inA_X2 0 (by decide) (List.mem_append_left _ (List.mem_map.mpr ⟨_, List.mem_of_getElem? (i := 9) rfl, rfl⟩)) rfl dX0_move_70 ?_
      refine lv_iload hx hb dX0_move_73 (lv_at hl 4 rfl) ?_
      obtain ⟨hi7, h⟩ := h
      refine m_aald X hw (tT (by decide : (8 : Nat) < 20)) 2 rfl hi7 dX0_move_75 ?_
      refine lv_aload_n hx hb dX0_move_76 rfl (lv_at hl 0 rfl) ?_
      refine m_get (v := .ref (g.1 (4 * 320))) X hw tB rfl inA_X0 2 (by decide) mw_63 rfl dX0_move_77 ?_
      refine lv_iconst (v := (1 : Int32)) hx hb dX0_move_80 (by decide) ?_
      refine m_cVv (TT := cT g) (As := [.ref (g.1 (4 * 320)), .int (1 : Int32)]) (rest := []) X hl.1 hw hS (kX3_plus hg (okW_t (by decide : (8 : Nat) < 20) hi7) (okW_b (by decide)) h) mw_197 fX3_plus (tW (okW_t (by decide : (8 : Nat) < 20) hi7)) rfl rfl ⟨rfl, rfl, Nat.le_of_ble_eq_true rfl, Nat.le_of_ble_eq_true rfl⟩ rfl rfl (Nat.le_of_ble_eq_true rfl) dX0_move_81 (fun σ9 H locs h hw hS => ?_)
      obtain ⟨a10, ea10⟩ : ∃ z : Int32, z = i4 + (-1 : Int32) := ⟨_, rfl⟩
      replace h := h a10 ea10
      refine lv_iinc (v := a10) (lv' := [(4, .int a10), (0, .ref (g.1 2002)), (1, .ref (g.1 (4 * p1 + 2))), (2, .int x2), (3, .int i3)]) hx hb dX0_move_84 hl (k := 4) rfl (by rw [ea10]; rfl) (by decide) rfl (fun ls hl => ?_)
      refine lv_goto (tgt := 32) hx hb dX0_move_87 (by decide) ?_
      exact hN32 i3 a10 _ h H locs ls hw hS (lv_sub hl [1, 2, 3, 4, 0] rfl)
def wbX0_move_10 (p1 : Nat) (x2 : Int32) (Q : CS → Prop) (N10 : Int32 → CS → Prop) (i3 : Int32) (σ : CS) : Prop :=
  ((cD σ 8) ≤ i3 →
    Q σ) ∧
  (¬ (cD σ 8) ≤ i3 →
    ∀ a11 : Int32, a11 = (cD σ 8) - (1 : Int32) →
    ∃ n, lq3 (wbX0_move_32 p1 x2 Q N10) n i3 a11 σ)
set_option maxRecDepth 100000 in
set_option maxHeartbeats 4000000 in
theorem wX0_move_10 {p : Program} {l : Launch} {e : Env} {s : State} {m : MethodId} {args : Array Value} {below : List Frame} {meth : Method} {c : Code} {D : va_G} {A : Nat → Prop} {g : mG} (hg : inj g) {p1 : Nat} {x2 : Int32} (hp1 : p1 < 20) (X : cx p m meth c s args cX0_move 5 RX0 D (tyG g)) (hr : meth.sig.returnType = none) {Q : CS → Prop} : ∀ (n : Nat) (i3 : Int32) (σ : CS), lq2 (wbX0_move_10 p1 x2 Q) n i3 σ → cW p l e rmX0_move s m args below meth c (MQ below (va_Qv Q (fun u t => wd D A (cT g u) t.heap) A) args s 0 0 A) D A (cT g σ) 10 5 [(0, .ref (g.1 2002)), (1, .ref (g.1 (4 * p1 + 2))), (2, .int x2), (3, .int i3)] := by
  obtain ⟨hx, hb, hml, hown, hts, hK, hlk⟩ := id X
  intro n
  induction n with
  | zero =>
    intro i3 σ h
    exact h.elim
  | succ n hN10 =>
    intro i3 σ h H locs ls hw hS hl
    replace h : wbX0_move_10 p1 x2 Q (lq2 (wbX0_move_10 p1 x2 Q) n) i3 σ := h
    unfold wbX0_move_10 at h
    refine lv_iload_n hx hb dX0_move_10 rfl (lv_at hl 3 rfl) ?_
    refine lv_aload_n hx hb dX0_move_11 rfl (lv_at hl 0 rfl) ?_
    refine m_get (v := .ref (g.1 (4 * 8 + 2))) X hw tB rfl inA_X0 0 (by decide) mw_60 rfl dX0_move_12 ?_
    refine m_getN (v := .int (cD σ 8)) X hw (tP (by decide : (8 : Nat) < 20)) rfl inA_X2 1 (by decide) (List.mem_append_left _ (List.mem_map.mpr ⟨_, List.mem_of_getElem? (i := 8) rfl, rfl⟩)) rfl dX0_move_15 ?_
    refine lv_icmp_ge (tgt := 96) hx hb dX0_move_18 (by decide) (fun hc => ?_) (fun hc => ?_)
    · replace h := h.1 hc
      exact m_vret X hr hw hS h dX0_move_96
    · replace h := h.2 hc
      refine lv_aload_n hx hb dX0_move_21 rfl (lv_at hl 0 rfl) ?_
      refine m_get (v := .ref (g.1 (4 * 8 + 2))) X hw tB rfl inA_X0 0 (by decide) mw_60 rfl dX0_move_22 ?_
      refine m_getN (v := .int (cD σ 8)) X hw (tP (by decide : (8 : Nat) < 20)) rfl inA_X2 1 (by decide) (List.mem_append_left _ (List.mem_map.mpr ⟨_, List.mem_of_getElem? (i := 8) rfl, rfl⟩)) rfl dX0_move_25 ?_
      refine lv_iconst (v := (1 : Int32)) hx hb dX0_move_28 (by decide) ?_
      refine lv_isub hx hb dX0_move_29 ?_
      refine lv_topi (fun a11 ea11 => ?_)
      replace h := h a11 ea11
      refine lv_istore (lv' := [(4, .int a11), (0, .ref (g.1 2002)), (1, .ref (g.1 (4 * p1 + 2))), (2, .int x2), (3, .int i3)]) hx hb dX0_move_30 hl (by decide) rfl (fun ls hl => ?_)
      obtain ⟨n9, h⟩ := h
      exact wX0_move_32 hg hp1 X hr hN10 n9 i3 a11 _ h H locs ls hw hS (lv_sub hl [1, 2, 3, 4, 0] rfl)
def wpX0_move_0 (p1 : Nat) (x2 : Int32) (Q : CS → Prop) (σ : CS) : Prop :=
  wpX2_load 8 p1 σ (fun (σ13 : CS) =>
    ∃ n, lq2 (wbX0_move_10 p1 x2 Q) n (0 : Int32) σ13)
set_option maxRecDepth 100000 in
set_option maxHeartbeats 4000000 in
theorem wX0_move_0 {p : Program} {l : Launch} {e : Env} {s : State} {m : MethodId} {args : Array Value} {below : List Frame} {meth : Method} {c : Code} {D : va_G} {A : Nat → Prop} {g : mG} (hg : inj g) {p1 : Nat} {x2 : Int32} (hp1 : p1 < 20) (X : cx p m meth c s args cX0_move 5 RX0 D (tyG g)) (hr : meth.sig.returnType = none) {Q : CS → Prop} : ∀ (σ : CS), wpX0_move_0 p1 x2 Q σ → cW p l e rmX0_move s m args below meth c (MQ below (va_Qv Q (fun u t => wd D A (cT g u) t.heap) A) args s 0 0 A) D A (cT g σ) 0 5 [(0, .ref (g.1 2002)), (1, .ref (g.1 (4 * p1 + 2))), (2, .int x2)] := by
  obtain ⟨hx, hb, hml, hown, hts, hK, hlk⟩ := id X
  intro σ h H locs ls hw hS hl
  unfold wpX0_move_0 at h
  refine lv_aload_n hx hb dX0_move_0 rfl (lv_at hl 0 rfl) ?_
  refine m_get (v := .ref (g.1 (4 * 8 + 2))) X hw tB rfl inA_X0 0 (by decide) mw_60 rfl dX0_move_1 ?_
  refine lv_aload_n hx hb dX0_move_4 rfl (lv_at hl 1 rfl) ?_
  refine m_cVv (TT := cT g) (As := [.ref (g.1 (4 * p1 + 2))]) (rest := []) X hl.1 hw hS (kX2_load hg (by decide : (8 : Nat) < 20) hp1 h) mw_178 fX2_load (tP (by decide : (8 : Nat) < 20)) rfl rfl ⟨rfl, rfl, Nat.le_of_ble_eq_true rfl, Nat.le_of_ble_eq_true rfl⟩ rfl rfl (Nat.le_of_ble_eq_true rfl) dX0_move_5 (fun σ13 H locs h hw hS => ?_)
  refine lv_iconst (v := (0 : Int32)) hx hb dX0_move_8 (by decide) ?_
  refine lv_istore_n (lv' := [(3, .int (0 : Int32)), (0, .ref (g.1 2002)), (1, .ref (g.1 (4 * p1 + 2))), (2, .int x2)]) hx hb dX0_move_9 rfl hl (by decide) rfl (fun ls hl => ?_)
  obtain ⟨n9, h⟩ := h
  exact wX0_move_10 hg hp1 X hr n9 (0 : Int32) _ h H locs ls hw hS (lv_sub hl [1, 2, 3, 0] rfl)
def wpX0_move (p1 : Nat) (x2 : Int32) (σ : CS) (Q : CS → Prop) : Prop := wpX0_move_0 p1 x2 Q σ
theorem kX0_move {l : Launch} {D : va_G} {A : Nat → Prop} {g : mG} (hg : inj g) {p1 : Nat} {x2 : Int32} (hp1 : p1 < 20) {σ : CS} {Q : CS → Prop} (h : wpX0_move p1 x2 σ Q) : Met l yX0_move (Cond.code yX0_move cX0_move 5 none :: wsA) rmX0_move (mPc D (tyG g) A (cT g σ) [.ref (g.1 2002), .ref (g.1 (4 * p1 + 2)), .int x2]) (va_Qv Q (fun u t => wd D A (cT g u) t.heap) A) 0 0 A :=
  m_met (by decide +kernel) (Nat.le_of_ble_eq_true rfl) (fun p e s m below meth c X hr H locs ls hw hS hl => wX0_move_0 hg hp1 X hr σ h H locs ls hw hS (lv_sub hl [0, 1, 2] rfl))
theorem fX0_move : vfit yX0_move cX0_move 5 none 2 := ⟨mw_305, mw_306, mw_43, mw_307, by decide +kernel, by decide +kernel, by decide +kernel⟩
/-! BigPolys$Bench.reduce(LBigPolys$Poly;)V -/
def rmX0_reduce : Room := { frames := 3, cells := 0, slots := 0, locals := 77 }
def wpX0_reduce_149 (p1 : Nat) (Q : CS → Prop) (N31 : Nat → Int32 → CS → Prop) (N68 : Nat → Int32 → Int32 → CS → Prop) (v2 : Nat) (i3 : Int32) (i5 : Int32) (σ : CS) : Prop :=
  vp_in i5 (tlen 8) ∧ (
  wpX3_load (16 * 8 + i5.toNatClampNeg) 321 σ (fun (σ3 : CS) =>
    ∀ a4 : Int32, a4 = i5 + (1 : Int32) →
    N68 v2 i3 a4 σ3))
set_option maxRecDepth 100000 in
set_option maxHeartbeats 4000000 in
theorem wX0_reduce_149 {p : Program} {l : Launch} {e : Env} {s : State} {m : MethodId} {args : Array Value} {below : List Frame} {meth : Method} {c : Code} {D : va_G} {A : Nat → Prop} {g : mG} (hg : inj g) {p1 : Nat} (hp1 : p1 < 20) (X : cx p m meth c s args cX0_reduce 6 RX0 D (tyG g)) (hr : meth.sig.returnType = none) {Q : CS → Prop} {N31 : Nat → Int32 → CS → Prop} (hN31 : ∀ (v2 : Nat) (i3 : Int32) (σ : CS), okW v2 → N31 v2 i3 σ → cW p l e rmX0_reduce s m args below meth c (MQ below (va_Qv Q (fun u t => wd D A (cT g u) t.heap) A) args s 0 0 A) D A (cT g σ) 31 6 [(0, .ref (g.1 2002)), (1, .ref (g.1 (4 * p1 + 2))), (2, .ref (g.1 (4 * v2))), (3, .int i3)]) {N68 : Nat → Int32 → Int32 → CS → Prop} (hN68 : ∀ (v2 : Nat) (i3 : Int32) (i5 : Int32) (σ : CS), okW v2 → N68 v2 i3 i5 σ → cW p l e rmX0_reduce s m args below meth c (MQ below (va_Qv Q (fun u t => wd D A (cT g u) t.heap) A) args s 0 0 A) D A (cT g σ) 68 6 [(0, .ref (g.1 2002)), (1, .ref (g.1 (4 * p1 + 2))), (2, .ref (g.1 (4 * v2))), (3, .int i3), (5, .int i5)]) : ∀ (v2 : Nat) (i3 : Int32) (i5 : Int32) (σ : CS), okW v2 → wpX0_reduce_149 p1 Q N31 N68 v2 i3 i5 σ → cW p l e rmX0_reduce s m args below meth c (MQ below (va_Qv Q (fun u t => wd D A (cT g u) t.heap) A) args s 0 0 A) D A (cT g σ) 149 6 [(0, .ref (g.1 2002)), (1, .ref (g.1 (4 * p1 + 2))), (2, .ref (g.1 (4 * v2))), (3, .int i3), (5, .int i5)] := by
  obtain ⟨hx, hb, hml, hown, hts, hK, hlk⟩ := id X
  intro v2 i3 i5 σ hv2 h H locs ls hw hS hl
  unfold wpX0_reduce_149 at h
  refine lv_aload_n hx hb dX0_reduce_149 rfl (lv_at hl 0 rfl) ?_
  refine m_get (v := .ref (g.1 (4 * 8 + 2))) X hw tB rfl inA_X0 0 (by decide) mw_60 rfl dX0_reduce_150 ?_
  refine m_getN (v := .ref (g.1 (4 * 8 + 3))) X hw (tP (by decide : (8 : Nat) < 20)) rfl inA_X2 0 (by decide) (List.mem_append_left _ (List.mem_map.mpr ⟨_, List.mem_of_getElem? (i := 9) rfl, rfl⟩)) rfl dX0_reduce_153 ?_
  refine lv_iload hx hb dX0_reduce_156 (lv_at hl 4 rfl) ?_
  obtain ⟨hi1, h⟩ := h
  refine m_aald X hw (tT (by decide : (8 : Nat) < 20)) 2 rfl hi1 dX0_reduce_158 ?_
  refine lv_aload_n hx hb dX0_reduce_159 rfl (lv_at hl 0 rfl) ?_
  refine m_get (v := .ref (g.1 (4 * 321))) X hw tB rfl inA_X0 3 (by decide) mw_64 rfl dX0_reduce_160 ?_
  refine m_cVv (TT := cT g) (As := [.ref (g.1 (4 * 321))]) (rest := []) X hl.1 hw hS (kX3_load hg (okW_t (by decide : (8 : Nat) < 20) hi1) (okW_b (by decide)) h) mw_308 fX3_load (tW (okW_t (by decide : (8 : Nat) < 20) hi1)) rfl rfl ⟨rfl, rfl, Nat.le_of_ble_eq_true rfl, Nat.le_of_ble_eq_true rfl⟩ rfl rfl (Nat.le_of_ble_eq_true rfl) dX0_reduce_163 (fun σ3 H locs h hw hS => ?_)
  obtain ⟨a4, ea4⟩ : ∃ z : Int32, z = i5 + (1 : Int32) := ⟨_, rfl⟩
  replace h := h a4 ea4
  refine lv_iinc (v := a4) (lv' := [(5, .int a4), (0, .ref (g.1 2002)), (1, .ref (g.1 (4 * p1 + 2))), (2, .ref (g.1 (4 * v2))), (3, .int i3)]) hx hb dX0_reduce_166 hl (k := 4) rfl (by rw [ea4]; rfl) (by decide) rfl (fun ls hl => ?_)
  refine lv_goto (tgt := 68) hx hb dX0_reduce_169 (by decide) ?_
  exact hN68 v2 i3 a4 _ hv2 h H locs ls hw hS (lv_sub hl [1, 2, 3, 4, 0] rfl)
def wpX0_reduce_135 (p1 : Nat) (Q : CS → Prop) (N31 : Nat → Int32 → CS → Prop) (N68 : Nat → Int32 → Int32 → CS → Prop) (v2 : Nat) (i3 : Int32) (i5 : Int32) (σ : CS) : Prop :=
  (0 ≤ (cG σ v2) →
    wpX0_reduce_149 p1 Q N31 N68 v2 i3 i5 σ) ∧
  (¬ 0 ≤ (cG σ v2) →
    wpX3_negate 321 σ (fun (σ6 : CS) =>
      wpX0_reduce_149 p1 Q N31 N68 v2 i3 i5 σ6))
set_option maxRecDepth 100000 in
set_option maxHeartbeats 4000000 in
theorem wX0_reduce_135 {p : Program} {l : Launch} {e : Env} {s : State} {m : MethodId} {args : Array Value} {below : List Frame} {meth : Method} {c : Code} {D : va_G} {A : Nat → Prop} {g : mG} (hg : inj g) {p1 : Nat} (hp1 : p1 < 20) (X : cx p m meth c s args cX0_reduce 6 RX0 D (tyG g)) (hr : meth.sig.returnType = none) {Q : CS → Prop} {N31 : Nat → Int32 → CS → Prop} (hN31 : ∀ (v2 : Nat) (i3 : Int32) (σ : CS), okW v2 → N31 v2 i3 σ → cW p l e rmX0_reduce s m args below meth c (MQ below (va_Qv Q (fun u t => wd D A (cT g u) t.heap) A) args s 0 0 A) D A (cT g σ) 31 6 [(0, .ref (g.1 2002)), (1, .ref (g.1 (4 * p1 + 2))), (2, .ref (g.1 (4 * v2))), (3, .int i3)]) {N68 : Nat → Int32 → Int32 → CS → Prop} (hN68 : ∀ (v2 : Nat) (i3 : Int32) (i5 : Int32) (σ : CS), okW v2 → N68 v2 i3 i5 σ → cW p l e rmX0_reduce s m args below meth c (MQ below (va_Qv Q (fun u t => wd D A (cT g u) t.heap) A) args s 0 0 A) D A (cT g σ) 68 6 [(0, .ref (g.1 2002)), (1, .ref (g.1 (4 * p1 + 2))), (2, .ref (g.1 (4 * v2))), (3, .int i3), (5, .int i5)]) : ∀ (v2 : Nat) (i3 : Int32) (i5 : Int32) (σ : CS), okW v2 → wpX0_reduce_135 p1 Q N31 N68 v2 i3 i5 σ → cW p l e rmX0_reduce s m args below meth c (MQ below (va_Qv Q (fun u t => wd D A (cT g u) t.heap) A) args s 0 0 A) D A (cT g σ) 135 6 [(0, .ref (g.1 2002)), (1, .ref (g.1 (4 * p1 + 2))), (2, .ref (g.1 (4 * v2))), (3, .int i3), (5, .int i5)] := by
  obtain ⟨hx, hb, hml, hown, hts, hK, hlk⟩ := id X
  intro v2 i3 i5 σ hv2 h H locs ls hw hS hl
  unfold wpX0_reduce_135 at h
  refine lv_aload_n hx hb dX0_reduce_135 rfl (lv_at hl 2 rfl) ?_
  refine m_getN (v := .int (cG σ v2)) X hw (tW hv2) rfl inA_X3 2 (by decide) (List.mem_append_left _ (List.mem_map.mpr ⟨_, List.mem_of_getElem? (i := 10) rfl, rfl⟩)) rfl dX0_reduce_136 ?_
  refine lv_if_ge (tgt := 149) hx hb dX0_reduce_139 (by decide) (fun hc => ?_) (fun hc => ?_)
  · replace h := h.1 hc
    exact wX0_reduce_149 hg hp1 X hr hN31 hN68 v2 i3 i5 _ hv2 h H locs ls hw hS (lv_sub hl [0, 1, 2, 3, 4] rfl)
  · replace h := h.2 hc
    refine lv_aload_n hx hb dX0_reduce_142 rfl (lv_at hl 0 rfl) ?_
    refine m_get (v := .ref (g.1 (4 * 321))) X hw tB rfl inA_X0 3 (by decide) mw_64 rfl dX0_reduce_143 ?_
    refine m_cVv (TT := cT g) (As := []) (rest := []) X hl.1 hw hS (kX3_negate hg (okW_b (by decide)) h) mw_327 fX3_negate (tW (okW_b (by decide))) rfl rfl ⟨rfl, rfl, Nat.le_of_ble_eq_true rfl, Nat.le_of_ble_eq_true rfl⟩ rfl rfl (Nat.le_of_ble_eq_true rfl) dX0_reduce_146 (fun σ6 H locs h hw hS => ?_)
    exact wX0_reduce_149 hg hp1 X hr hN31 hN68 v2 i3 i5 _ hv2 h H locs ls hw hS (lv_sub hl [0, 1, 2, 3, 4] rfl)
def wbX0_reduce_68 (p1 : Nat) (Q : CS → Prop) (N31 : Nat → Int32 → CS → Prop) (N68 : Nat → Int32 → Int32 → CS → Prop) (v2 : Nat) (i3 : Int32) (i5 : Int32) (σ : CS) : Prop :=
  (((cD σ p1) + i3) ≤ i5 →
    ∀ a7 : Int32, a7 = i3 + (-1 : Int32) →
    N31 v2 a7 σ) ∧
  (¬ ((cD σ p1) + i3) ≤ i5 →
    vp_in i5 (tlen 8) ∧ (
    wpX3_product 321 (16 * 8 + i5.toNatClampNeg) v2 σ (fun (σ10 : CS) =>
      (i5 < i3 →
        wpX0_reduce_135 p1 Q N31 N68 v2 i3 i5 σ10) ∧
      (¬ i5 < i3 →
        vp_in (i5 - i3) (tlen p1) ∧ (
        wpX3_product 322 320 (16 * p1 + (i5 - i3).toNatClampNeg) σ10 (fun (σ13 : CS) =>
          wpX3_plus 321 322 (-1 : Int32) σ13 (fun (σ15 : CS) =>
            wpX0_reduce_135 p1 Q N31 N68 v2 i3 i5 σ15)))))))
set_option maxRecDepth 100000 in
set_option maxHeartbeats 4000000 in
theorem wX0_reduce_68 {p : Program} {l : Launch} {e : Env} {s : State} {m : MethodId} {args : Array Value} {below : List Frame} {meth : Method} {c : Code} {D : va_G} {A : Nat → Prop} {g : mG} (hg : inj g) {p1 : Nat} (hp1 : p1 < 20) (X : cx p m meth c s args cX0_reduce 6 RX0 D (tyG g)) (hr : meth.sig.returnType = none) {Q : CS → Prop} {N31 : Nat → Int32 → CS → Prop} (hN31 : ∀ (v2 : Nat) (i3 : Int32) (σ : CS), okW v2 → N31 v2 i3 σ → cW p l e rmX0_reduce s m args below meth c (MQ below (va_Qv Q (fun u t => wd D A (cT g u) t.heap) A) args s 0 0 A) D A (cT g σ) 31 6 [(0, .ref (g.1 2002)), (1, .ref (g.1 (4 * p1 + 2))), (2, .ref (g.1 (4 * v2))), (3, .int i3)]) : ∀ (n : Nat) (v2 : Nat) (i3 : Int32) (i5 : Int32) (σ : CS), okW v2 → lq4 (wbX0_reduce_68 p1 Q N31) n v2 i3 i5 σ → cW p l e rmX0_reduce s m args below meth c (MQ below (va_Qv Q (fun u t => wd D A (cT g u) t.heap) A) args s 0 0 A) D A (cT g σ) 68 6 [(0, .ref (g.1 2002)), (1, .ref (g.1 (4 * p1 + 2))), (2, .ref (g.1 (4 * v2))), (3, .int i3), (5, .int i5)] := by
  obtain ⟨hx, hb, hml, hown, hts, hK, hlk⟩ := id X
  intro n
  induction n with
  | zero =>
    intro v2 i3 i5 σ hv2 h
    exact h.elim
  | succ n hN68 =>
    intro v2 i3 i5 σ hv2 h H locs ls hw hS hl
    replace h : wbX0_reduce_68 p1 Q N31 (lq4 (wbX0_reduce_68 p1 Q N31) n) v2 i3 i5 σ := h
    unfold wbX0_reduce_68 at h
    refine lv_iload hx hb dX0_reduce_68 (lv_at hl 4 rfl) ?_
    refine lv_aload_n hx hb dX0_reduce_70 rfl (lv_at hl 1 rfl) ?_
    refine m_getN (v := .int (cD σ p1)) X hw (tP hp1) rfl inA_X2 1 (by decide) (List.mem_append_left _ (List.mem_map.mpr ⟨_, List.mem_of_getElem? (i := 8) rfl, rfl⟩)) rfl dX0_reduce_71 ?_
    refine lv_iload_n hx hb dX0_reduce_74 rfl (lv_at hl 3 rfl) ?_
    refine lv_iadd hx hb dX0_reduce_75 ?_
    refine lv_icmp_ge (tgt := 172) hx hb dX0_reduce_76 (by decide) (fun hc => ?_) (fun hc => ?_)
    · replace h := h.1 hc
      obtain ⟨a7, ea7⟩ : ∃ z : Int32, z = i3 + (-1 : Int32) := ⟨_, rfl⟩
      replace h := h a7 ea7
      refine lv_iinc (v := a7) (lv' := [(3, .int a7), (0, .ref (g.1 2002)), (1, .ref (g.1 (4 * p1 + 2))), (2, .ref (g.1 (4 * v2))), (5, .int i5)]) hx hb dX0_reduce_172 hl (k := 3) rfl (by rw [ea7]; rfl) (by decide) rfl (fun ls hl => ?_)
      refine lv_goto (tgt := 31) hx hb dX0_reduce_175 (by decide) ?_
      exact hN31 v2 a7 _ hv2 h H locs ls hw hS (lv_sub hl [1, 2, 3, 0] rfl)
    · replace h := h.2 hc
      refine lv_aload_n hx hb dX0_reduce_79 rfl (lv_at hl 0 rfl) ?_
      refine m_get (v := .ref (g.1 (4 * 321))) X hw tB rfl inA_X0 3 (by decide) mw_64 rfl dX0_reduce_80 ?_
      refine lv_aload_n hx hb dX0_reduce_83 rfl (lv_at hl 0 rfl) ?_
      refine m_get (v := .ref (g.1 (4 * 8 + 2))) X hw tB rfl inA_X0 0 (by decide) mw_60 rfl dX0_reduce_84 ?_
      refine m_getN (v := .ref (g.1 (4 * 8 + 3))) X hw (tP (by decide : (8 : Nat) < 20)) rfl inA_X2 0 (by decide) (List.mem_append_left _ (List.mem_map.mpr ⟨_, List.mem_of_getElem? (i := 9) rfl, rfl⟩)) rfl dX0_reduce_87 ?_
      refine lv_iload hx hb dX0_reduce_90 (lv_at hl 4 rfl) ?_
      obtain ⟨hi8, h⟩ := h
      refine m_aald X hw (tT (by decide : (8 : Nat) < 20)) 2 rfl hi8 dX0_reduce_92 ?_
      refine lv_aload_n hx hb dX0_reduce_93 rfl (lv_at hl 2 rfl) ?_
      refine m_cVv (TT := cT g) (As := [.ref (g.1 (4 * (16 * 8 + i5.toNatClampNeg))), .ref (g.1 (4 * v2))]) (rest := []) X hl.1 hw hS (kX3_product hg (okW_b (by decide)) (okW_t (by decide : (8 : Nat) < 20) hi8) hv2 h) mw_255 fX3_product (tW (okW_b (by decide))) rfl rfl ⟨rfl, rfl, Nat.le_of_ble_eq_true rfl, Nat.le_of_ble_eq_true rfl⟩ rfl rfl (Nat.le_of_ble_eq_true rfl) dX0_reduce_94 (fun σ10 H locs h hw hS => ?_)
      refine lv_iload hx hb dX0_reduce_97 (lv_at hl 4 rfl) ?_
      refine lv_iload_n hx hb dX0_reduce_99 rfl (lv_at hl 3 rfl) ?_
      refine lv_icmp_lt (tgt := 135) hx hb dX0_reduce_100 (by decide) (fun hc => ?_) (fun hc => ?_)
      · replace h := h.1 hc
        exact wX0_reduce_135 hg hp1 X hr hN31 hN68 v2 i3 i5 _ hv2 h H locs ls hw hS (lv_sub hl [0, 1, 2, 3, 4] rfl)
      · replace h := h.2 hc
        refine lv_aload_n hx hb dX0_reduce_103 rfl (lv_at hl 0 rfl) ?_
        refine m_get (v := .ref (g.1 (4 * 322))) X hw tB rfl inA_X0 4 (by decide) mw_65 rfl dX0_reduce_104 ?_
        refine lv_aload_n hx hb dX0_reduce_107 rfl (lv_at hl 0 rfl) ?_
        refine m_get (v := .ref (g.1 (4 * 320))) X hw tB rfl inA_X0 2 (by decide) mw_63 rfl dX0_reduce_108 ?_
        refine lv_aload_n hx hb dX0_reduce_111 rfl (lv_at hl 1 rfl) ?_
        refine m_getN (v := .ref (g.1 (4 * p1 + 3))) X hw (tP hp1) rfl inA_X2 0 (by decide) (List.mem_append_left _ (List.mem_map.mpr ⟨_, List.mem_of_getElem? (i := 9) rfl, rfl⟩)) rfl dX0_reduce_112 ?_
        refine lv_iload hx hb dX0_reduce_115 (lv_at hl 4 rfl) ?_
        refine lv_iload_n hx hb dX0_reduce_117 rfl (lv_at hl 3 rfl) ?_
        refine lv_isub hx hb dX0_reduce_118 ?_
        obtain ⟨hi11, h⟩ := h
        refine m_aald X hw (tT hp1) 2 rfl hi11 dX0_reduce_119 ?_
        refine m_cVv (TT := cT g) (As := [.ref (g.1 (4 * 320)), .ref (g.1 (4 * (16 * p1 + (i5 - i3).toNatClampNeg)))]) (rest := []) X hl.1 hw hS (kX3_product hg (okW_b (by decide)) (okW_b (by decide)) (okW_t hp1 hi11) h) mw_255 fX3_product (tW (okW_b (by decide))) rfl rfl ⟨rfl, rfl, Nat.le_of_ble_eq_true rfl, Nat.le_of_ble_eq_true rfl⟩ rfl rfl (Nat.le_of_ble_eq_true rfl) dX0_reduce_120 (fun σ13 H locs h hw hS => ?_)
        refine lv_aload_n hx hb dX0_reduce_123 rfl (lv_at hl 0 rfl) ?_
        refine m_get (v := .ref (g.1 (4 * 321))) X hw tB rfl inA_X0 3 (by decide) mw_64 rfl dX0_reduce_124 ?_
        refine lv_aload_n hx hb dX0_reduce_127 rfl (lv_at hl 0 rfl) ?_
        refine m_get (v := .ref (g.1 (4 * 322))) X hw tB rfl inA_X0 4 (by decide) mw_65 rfl dX0_reduce_128 ?_
        refine lv_iconst (v := (-1 : Int32)) hx hb dX0_reduce_131 (by decide) ?_
        refine m_cVv (TT := cT g) (As := [.ref (g.1 (4 * 322)), .int (-1 : Int32)]) (rest := []) X hl.1 hw hS (kX3_plus hg (okW_b (by decide)) (okW_b (by decide)) h) mw_197 fX3_plus (tW (okW_b (by decide))) rfl rfl ⟨rfl, rfl, Nat.le_of_ble_eq_true rfl, Nat.le_of_ble_eq_true rfl⟩ rfl rfl (Nat.le_of_ble_eq_true rfl) dX0_reduce_132 (fun σ15 H locs h hw hS => ?_)
        exact wX0_reduce_135 hg hp1 X hr hN31 hN68 v2 i3 i5 _ hv2 h H locs ls hw hS (lv_sub hl [0, 1, 2, 3, 4] rfl)
def wbX0_reduce_31 (p1 : Nat) (Q : CS → Prop) (N31 : Nat → Int32 → CS → Prop) (v2 : Nat) (i3 : Int32) (σ : CS) : Prop :=
  (i3 < 0 →
    wpX2_measure 8 σ (fun (σ17 : CS) =>
      Q σ17)) ∧
  (¬ i3 < 0 →
    vp_in ((cD σ p1) + i3) (tlen 8) ∧ (
    wpX3_load 320 (16 * 8 + ((cD σ p1) + i3).toNatClampNeg) σ (fun (σ20 : CS) =>
      wpX3_clear (16 * 8 + ((cD σ p1) + i3).toNatClampNeg) σ20 (fun (σ22 : CS) =>
        ∃ n, lq4 (wbX0_reduce_68 p1 Q N31) n v2 i3 (0 : Int32) σ22))))
set_option maxRecDepth 100000 in
set_option maxHeartbeats 4000000 in
theorem wX0_reduce_31 {p : Program} {l : Launch} {e : Env} {s : State} {m : MethodId} {args : Array Value} {below : List Frame} {meth : Method} {c : Code} {D : va_G} {A : Nat → Prop} {g : mG} (hg : inj g) {p1 : Nat} (hp1 : p1 < 20) (X : cx p m meth c s args cX0_reduce 6 RX0 D (tyG g)) (hr : meth.sig.returnType = none) {Q : CS → Prop} : ∀ (n : Nat) (v2 : Nat) (i3 : Int32) (σ : CS), okW v2 → lq3 (wbX0_reduce_31 p1 Q) n v2 i3 σ → cW p l e rmX0_reduce s m args below meth c (MQ below (va_Qv Q (fun u t => wd D A (cT g u) t.heap) A) args s 0 0 A) D A (cT g σ) 31 6 [(0, .ref (g.1 2002)), (1, .ref (g.1 (4 * p1 + 2))), (2, .ref (g.1 (4 * v2))), (3, .int i3)] := by
  obtain ⟨hx, hb, hml, hown, hts, hK, hlk⟩ := id X
  intro n
  induction n with
  | zero =>
    intro v2 i3 σ hv2 h
    exact h.elim
  | succ n hN31 =>
    intro v2 i3 σ hv2 h H locs ls hw hS hl
    replace h : wbX0_reduce_31 p1 Q (lq3 (wbX0_reduce_31 p1 Q) n) v2 i3 σ := h
    unfold wbX0_reduce_31 at h
    refine lv_iload_n hx hb dX0_reduce_31 rfl (lv_at hl 3 rfl) ?_
    refine lv_if_lt (tgt := 178) hx hb dX0_reduce_32 (by decide) (fun hc => ?_) (fun hc => ?_)
    · replace h := h.1 hc
      refine lv_aload_n hx hb dX0_reduce_178 rfl (lv_at hl 0 rfl) ?_
      refine m_get (v := .ref (g.1 (4 * 8 + 2))) X hw tB rfl inA_X0 0 (by decide) mw_60 rfl dX0_reduce_179 ?_
      refine m_cVv (TT := cT g) (As := []) (rest := []) X hl.1 hw hS (kX2_measure hg (by decide : (8 : Nat) < 20) h) mw_217 fX2_measure (tP (by decide : (8 : Nat) < 20)) rfl rfl ⟨rfl, rfl, Nat.le_of_ble_eq_true rfl, Nat.le_of_ble_eq_true rfl⟩ rfl rfl (Nat.le_of_ble_eq_true rfl) dX0_reduce_182 (fun σ17 H locs h hw hS => ?_)
      exact m_vret X hr hw hS h dX0_reduce_185
    · replace h := h.2 hc
      refine lv_aload_n hx hb dX0_reduce_35 rfl (lv_at hl 0 rfl) ?_
      refine m_get (v := .ref (g.1 (4 * 8 + 2))) X hw tB rfl inA_X0 0 (by decide) mw_60 rfl dX0_reduce_36 ?_
      refine m_getN (v := .ref (g.1 (4 * 8 + 3))) X hw (tP (by decide : (8 : Nat) < 20)) rfl inA_X2 0 (by decide) (List.mem_append_left _ (List.mem_map.mpr ⟨_, List.mem_of_getElem? (i := 9) rfl, rfl⟩)) rfl dX0_reduce_39 ?_
      refine lv_aload_n hx hb dX0_reduce_42 rfl (lv_at hl 1 rfl) ?_
      refine m_getN (v := .int (cD σ p1)) X hw (tP hp1) rfl inA_X2 1 (by decide) (List.mem_append_left _ (List.mem_map.mpr ⟨_, List.mem_of_getElem? (i := 8) rfl, rfl⟩)) rfl dX0_reduce_43 ?_
      refine lv_iload_n hx hb dX0_reduce_46 rfl (lv_at hl 3 rfl) ?_
      refine lv_iadd hx hb dX0_reduce_47 ?_
      obtain ⟨hi18, h⟩ := h
      refine m_aald X hw (tT (by decide : (8 : Nat) < 20)) 2 rfl hi18 dX0_reduce_48 ?_
      refine lv_astore (lv' := [(4, .ref (g.1 (4 * (16 * 8 + ((cD σ p1) + i3).toNatClampNeg)))), (0, .ref (g.1 2002)), (1, .ref (g.1 (4 * p1 + 2))), (2, .ref (g.1 (4 * v2))), (3, .int i3)]) hx hb dX0_reduce_49 hl (by decide) rfl (fun ls hl => ?_)
      refine lv_aload_n hx hb dX0_reduce_51 rfl (lv_at hl 1 rfl) ?_
      refine m_get (v := .ref (g.1 (4 * 320))) X hw tB rfl inA_X0 2 (by decide) mw_63 rfl dX0_reduce_52 ?_
      refine lv_aload hx hb dX0_reduce_55 (lv_at hl 0 rfl) ?_
      refine m_cVv (TT := cT g) (As := [.ref (g.1 (4 * (16 * 8 + ((cD σ p1) + i3).toNatClampNeg)))]) (rest := []) X hl.1 hw hS (kX3_load hg (okW_b (by decide)) (okW_t (by decide : (8 : Nat) < 20) hi18) h) mw_308 fX3_load (tW (okW_b (by decide))) rfl rfl ⟨rfl, rfl, Nat.le_of_ble_eq_true rfl, Nat.le_of_ble_eq_true rfl⟩ rfl rfl (Nat.le_of_ble_eq_true rfl) dX0_reduce_57 (fun σ20 H locs h hw hS => ?_)
      refine lv_aload hx hb dX0_reduce_60 (lv_at hl 0 rfl) ?_
      refine m_cVv (TT := cT g) (As := []) (rest := []) X hl.1 hw hS (kX3_clear hg (okW_t (by decide : (8 : Nat) < 20) hi18) h) mw_326 fX3_clear (tW (okW_t (by decide : (8 : Nat) < 20) hi18)) rfl rfl ⟨rfl, rfl, Nat.le_of_ble_eq_true rfl, Nat.le_of_ble_eq_true rfl⟩ rfl rfl (Nat.le_of_ble_eq_true rfl) dX0_reduce_62 (fun σ22 H locs h hw hS => ?_)
      refine lv_iconst (v := (0 : Int32)) hx hb dX0_reduce_65 (by decide) ?_
      refine lv_istore (lv' := [(5, .int (0 : Int32)), (4, .ref (g.1 (4 * (16 * 8 + ((cD σ p1) + i3).toNatClampNeg)))), (0, .ref (g.1 2002)), (1, .ref (g.1 (4 * p1 + 2))), (2, .ref (g.1 (4 * v2))), (3, .int i3)]) hx hb dX0_reduce_66 hl (by decide) rfl (fun ls hl => ?_)
      obtain ⟨n9, h⟩ := h
      exact wX0_reduce_68 hg hp1 X hr hN31 n9 v2 i3 (0 : Int32) _ hv2 h H locs ls hw hS (lv_sub hl [2, 3, 4, 5, 0] rfl)
def wpX0_reduce_0 (p1 : Nat) (Q : CS → Prop) (σ : CS) : Prop :=
  (0 ≤ (cD σ p1) →
    vp_in (cD σ p1) (tlen p1) ∧ (
    ∀ a24 : Int32, a24 = (cD σ 8) - (cD σ p1) →
    ∃ n, lq3 (wbX0_reduce_31 p1 Q) n (16 * p1 + (cD σ p1).toNatClampNeg) a24 σ)) ∧
  (¬ 0 ≤ (cD σ p1) →
    Q σ)
set_option maxRecDepth 100000 in
set_option maxHeartbeats 4000000 in
theorem wX0_reduce_0 {p : Program} {l : Launch} {e : Env} {s : State} {m : MethodId} {args : Array Value} {below : List Frame} {meth : Method} {c : Code} {D : va_G} {A : Nat → Prop} {g : mG} (hg : inj g) {p1 : Nat} (hp1 : p1 < 20) (X : cx p m meth c s args cX0_reduce 6 RX0 D (tyG g)) (hr : meth.sig.returnType = none) {Q : CS → Prop} : ∀ (σ : CS), wpX0_reduce_0 p1 Q σ → cW p l e rmX0_reduce s m args below meth c (MQ below (va_Qv Q (fun u t => wd D A (cT g u) t.heap) A) args s 0 0 A) D A (cT g σ) 0 6 [(0, .ref (g.1 2002)), (1, .ref (g.1 (4 * p1 + 2)))] := by
  obtain ⟨hx, hb, hml, hown, hts, hK, hlk⟩ := id X
  intro σ h H locs ls hw hS hl
  unfold wpX0_reduce_0 at h
  refine lv_aload_n hx hb dX0_reduce_0 rfl (lv_at hl 1 rfl) ?_
  refine m_getN (v := .int (cD σ p1)) X hw (tP hp1) rfl inA_X2 1 (by decide) (List.mem_append_left _ (List.mem_map.mpr ⟨_, List.mem_of_getElem? (i := 8) rfl, rfl⟩)) rfl dX0_reduce_1 ?_
  refine lv_if_ge (tgt := 8) hx hb dX0_reduce_4 (by decide) (fun hc => ?_) (fun hc => ?_)
  · replace h := h.1 hc
    refine lv_aload_n hx hb dX0_reduce_8 rfl (lv_at hl 1 rfl) ?_
    refine m_getN (v := .ref (g.1 (4 * p1 + 3))) X hw (tP hp1) rfl inA_X2 0 (by decide) (List.mem_append_left _ (List.mem_map.mpr ⟨_, List.mem_of_getElem? (i := 9) rfl, rfl⟩)) rfl dX0_reduce_9 ?_
    refine lv_aload_n hx hb dX0_reduce_12 rfl (lv_at hl 1 rfl) ?_
    refine m_getN (v := .int (cD σ p1)) X hw (tP hp1) rfl inA_X2 1 (by decide) (List.mem_append_left _ (List.mem_map.mpr ⟨_, List.mem_of_getElem? (i := 8) rfl, rfl⟩)) rfl dX0_reduce_13 ?_
    obtain ⟨hi23, h⟩ := h
    refine m_aald X hw (tT hp1) 2 rfl hi23 dX0_reduce_16 ?_
    refine lv_astore_n (lv' := [(2, .ref (g.1 (4 * (16 * p1 + (cD σ p1).toNatClampNeg)))), (0, .ref (g.1 2002)), (1, .ref (g.1 (4 * p1 + 2)))]) hx hb dX0_reduce_17 rfl hl (by decide) rfl (fun ls hl => ?_)
    refine lv_aload_n hx hb dX0_reduce_18 rfl (lv_at hl 1 rfl) ?_
    refine m_get (v := .ref (g.1 (4 * 8 + 2))) X hw tB rfl inA_X0 0 (by decide) mw_60 rfl dX0_reduce_19 ?_
    refine m_getN (v := .int (cD σ 8)) X hw (tP (by decide : (8 : Nat) < 20)) rfl inA_X2 1 (by decide) (List.mem_append_left _ (List.mem_map.mpr ⟨_, List.mem_of_getElem? (i := 8) rfl, rfl⟩)) rfl dX0_reduce_22 ?_
    refine lv_aload_n hx hb dX0_reduce_25 rfl (lv_at hl 2 rfl) ?_
    refine m_getN (v := .int (cD σ p1)) X hw (tP hp1) rfl inA_X2 1 (by decide) (List.mem_append_left _ (List.mem_map.mpr ⟨_, List.mem_of_getElem? (i := 8) rfl, rfl⟩)) rfl dX0_reduce_26 ?_
    refine lv_isub hx hb dX0_reduce_29 ?_
    refine lv_topi (fun a24 ea24 => ?_)
    replace h := h a24 ea24
    refine lv_istore_n (lv' := [(3, .int a24), (2, .ref (g.1 (4 * (16 * p1 + (cD σ p1).toNatClampNeg)))), (0, .ref (g.1 2002)), (1, .ref (g.1 (4 * p1 + 2)))]) hx hb dX0_reduce_30 rfl hl (by decide) rfl (fun ls hl => ?_)
    obtain ⟨n9, h⟩ := h
    exact wX0_reduce_31 hg hp1 X hr n9 (16 * p1 + (cD σ p1).toNatClampNeg) a24 _ (okW_t hp1 hi23) h H locs ls hw hS (lv_sub hl [2, 3, 1, 0] rfl)
  · replace h := h.2 hc
    exact m_vret X hr hw hS h dX0_reduce_7
def wpX0_reduce (p1 : Nat) (σ : CS) (Q : CS → Prop) : Prop := wpX0_reduce_0 p1 Q σ
theorem kX0_reduce {l : Launch} {D : va_G} {A : Nat → Prop} {g : mG} (hg : inj g) {p1 : Nat} (hp1 : p1 < 20) {σ : CS} {Q : CS → Prop} (h : wpX0_reduce p1 σ Q) : Met l yX0_reduce (Cond.code yX0_reduce cX0_reduce 6 none :: wsA) rmX0_reduce (mPc D (tyG g) A (cT g σ) [.ref (g.1 2002), .ref (g.1 (4 * p1 + 2))]) (va_Qv Q (fun u t => wd D A (cT g u) t.heap) A) 0 0 A :=
  m_met (by decide +kernel) (Nat.le_of_ble_eq_true rfl) (fun p e s m below meth c X hr H locs ls hw hS hl => wX0_reduce_0 hg hp1 X hr σ h H locs ls hw hS (lv_sub hl [0, 1] rfl))
theorem fX0_reduce : vfit yX0_reduce cX0_reduce 6 none 1 := ⟨mw_323, mw_324, mw_43, mw_325, by decide +kernel, by decide +kernel, by decide +kernel⟩
/-! BigPolys$Bench.rest(LBigPolys$Poly;LBigPolys$Poly;)V -/
def rmX0_rest : Room := { frames := 4, cells := 0, slots := 0, locals := 102 }
def wpX0_rest_0 (p1 : Nat) (p2 : Nat) (Q : CS → Prop) (σ : CS) : Prop :=
  wpX2_load 8 p1 σ (fun (σ2 : CS) =>
    wpX0_reduce p2 σ2 (fun (σ4 : CS) =>
      ∀ a5 : Int32, a5 = ((cD σ4 p1) - (cD σ4 p2)) + (1 : Int32) →
      (a5 ≤ 0 →
        Q σ4) ∧
      (¬ a5 ≤ 0 →
        (¬ (a5 - a5 / (2 : Int32) * (2 : Int32)) = (1 : Int32) →
          Q σ4) ∧
        ((a5 - a5 / (2 : Int32) * (2 : Int32)) = (1 : Int32) →
          wpX2_leadSign p2 σ4 (fun (r6 : Int32) (σ7 : CS) =>
            (0 ≤ r6 →
              Q σ7) ∧
            (¬ 0 ≤ r6 →
              wpX2_negate 8 σ7 (fun (σ9 : CS) =>
                Q σ9)))))))
set_option maxRecDepth 100000 in
set_option maxHeartbeats 4000000 in
theorem wX0_rest_0 {p : Program} {l : Launch} {e : Env} {s : State} {m : MethodId} {args : Array Value} {below : List Frame} {meth : Method} {c : Code} {D : va_G} {A : Nat → Prop} {g : mG} (hg : inj g) {p1 : Nat} {p2 : Nat} (hp1 : p1 < 20) (hp2 : p2 < 20) (X : cx p m meth c s args cX0_rest 4 RX0 D (tyG g)) (hr : meth.sig.returnType = none) {Q : CS → Prop} : ∀ (σ : CS), wpX0_rest_0 p1 p2 Q σ → cW p l e rmX0_rest s m args below meth c (MQ below (va_Qv Q (fun u t => wd D A (cT g u) t.heap) A) args s 0 0 A) D A (cT g σ) 0 4 [(0, .ref (g.1 2002)), (1, .ref (g.1 (4 * p1 + 2))), (2, .ref (g.1 (4 * p2 + 2)))] := by
  obtain ⟨hx, hb, hml, hown, hts, hK, hlk⟩ := id X
  intro σ h H locs ls hw hS hl
  unfold wpX0_rest_0 at h
  refine lv_aload_n hx hb dX0_rest_0 rfl (lv_at hl 0 rfl) ?_
  refine m_get (v := .ref (g.1 (4 * 8 + 2))) X hw tB rfl inA_X0 0 (by decide) mw_60 rfl dX0_rest_1 ?_
  refine lv_aload_n hx hb dX0_rest_4 rfl (lv_at hl 1 rfl) ?_
  refine m_cVv (TT := cT g) (As := [.ref (g.1 (4 * p1 + 2))]) (rest := []) X hl.1 hw hS (kX2_load hg (by decide : (8 : Nat) < 20) hp1 h) mw_178 fX2_load (tP (by decide : (8 : Nat) < 20)) rfl rfl ⟨rfl, rfl, Nat.le_of_ble_eq_true rfl, Nat.le_of_ble_eq_true rfl⟩ rfl rfl (Nat.le_of_ble_eq_true rfl) dX0_rest_5 (fun σ2 H locs h hw hS => ?_)
  refine lv_aload_n hx hb dX0_rest_8 rfl (lv_at hl 0 rfl) ?_
  refine lv_aload_n hx hb dX0_rest_9 rfl (lv_at hl 2 rfl) ?_
  refine m_cVv (TT := cT g) (As := [.ref (g.1 (4 * p2 + 2))]) (rest := []) X hl.1 hw hS (kX0_reduce hg hp2 h) mw_322 fX0_reduce tB rfl rfl ⟨rfl, rfl, Nat.le_of_ble_eq_true rfl, Nat.le_of_ble_eq_true rfl⟩ rfl rfl (Nat.le_of_ble_eq_true rfl) dX0_rest_10 (fun σ4 H locs h hw hS => ?_)
  refine lv_aload_n hx hb dX0_rest_13 rfl (lv_at hl 1 rfl) ?_
  refine m_getN (v := .int (cD σ4 p1)) X hw (tP hp1) rfl inA_X2 1 (by decide) (List.mem_append_left _ (List.mem_map.mpr ⟨_, List.mem_of_getElem? (i := 8) rfl, rfl⟩)) rfl dX0_rest_14 ?_
  refine lv_aload_n hx hb dX0_rest_17 rfl (lv_at hl 2 rfl) ?_
  refine m_getN (v := .int (cD σ4 p2)) X hw (tP hp2) rfl inA_X2 1 (by decide) (List.mem_append_left _ (List.mem_map.mpr ⟨_, List.mem_of_getElem? (i := 8) rfl, rfl⟩)) rfl dX0_rest_18 ?_
  refine lv_isub hx hb dX0_rest_21 ?_
  refine lv_iconst (v := (1 : Int32)) hx hb dX0_rest_22 (by decide) ?_
  refine lv_iadd hx hb dX0_rest_23 ?_
  refine lv_topi (fun a5 ea5 => ?_)
  replace h := h a5 ea5
  refine lv_istore_n (lv' := [(3, .int a5), (0, .ref (g.1 2002)), (1, .ref (g.1 (4 * p1 + 2))), (2, .ref (g.1 (4 * p2 + 2)))]) hx hb dX0_rest_24 rfl hl (by decide) rfl (fun ls hl => ?_)
  refine lv_iload_n hx hb dX0_rest_25 rfl (lv_at hl 0 rfl) ?_
  refine lv_if_le (tgt := 50) hx hb dX0_rest_26 (by decide) (fun hc => ?_) (fun hc => ?_)
  · replace h := h.1 hc
    exact m_vret X hr hw hS h dX0_rest_50
  · replace h := h.2 hc
    refine lv_iload_n hx hb dX0_rest_29 rfl (lv_at hl 0 rfl) ?_
    refine lv_iconst (v := (2 : Int32)) hx hb dX0_rest_30 (by decide) ?_
    refine lv_irem hx hb dX0_rest_31 (by decide) ?_
    refine lv_iconst (v := (1 : Int32)) hx hb dX0_rest_32 (by decide) ?_
    refine lv_icmp_ne (tgt := 50) hx hb dX0_rest_33 (by decide) (fun hc => ?_) (fun hc => ?_)
    · replace h := h.1 hc
      exact m_vret X hr hw hS h dX0_rest_50
    · replace h := h.2 hc
      refine lv_aload_n hx hb dX0_rest_36 rfl (lv_at hl 3 rfl) ?_
      refine m_cVi (TT := cT g) (As := []) (rest := []) X hl.1 hw hS (kX2_leadSign hg hp2 h) mw_331 fX2_leadSign (tP hp2) rfl rfl ⟨rfl, rfl, Nat.le_of_ble_eq_true rfl, Nat.le_of_ble_eq_true rfl⟩ rfl rfl (Nat.le_of_ble_eq_true rfl) dX0_rest_37 (fun r6 σ7 H locs h hw hS => ?_)
      refine lv_if_ge (tgt := 50) hx hb dX0_rest_40 (by decide) (fun hc => ?_) (fun hc => ?_)
      · replace h := h.1 hc
        exact m_vret X hr hw hS h dX0_rest_50
      · replace h := h.2 hc
        refine lv_aload_n hx hb dX0_rest_43 rfl (lv_at hl 1 rfl) ?_
        refine m_get (v := .ref (g.1 (4 * 8 + 2))) X hw tB rfl inA_X0 0 (by decide) mw_60 rfl dX0_rest_44 ?_
        refine m_cVv (TT := cT g) (As := []) (rest := []) X hl.1 hw hS (kX2_negate hg (by decide : (8 : Nat) < 20) h) mw_335 fX2_negate (tP (by decide : (8 : Nat) < 20)) rfl rfl ⟨rfl, rfl, Nat.le_of_ble_eq_true rfl, Nat.le_of_ble_eq_true rfl⟩ rfl rfl (Nat.le_of_ble_eq_true rfl) dX0_rest_47 (fun σ9 H locs h hw hS => ?_)
        exact m_vret X hr hw hS h dX0_rest_50
def wpX0_rest (p1 : Nat) (p2 : Nat) (σ : CS) (Q : CS → Prop) : Prop := wpX0_rest_0 p1 p2 Q σ
theorem kX0_rest {l : Launch} {D : va_G} {A : Nat → Prop} {g : mG} (hg : inj g) {p1 : Nat} {p2 : Nat} (hp1 : p1 < 20) (hp2 : p2 < 20) {σ : CS} {Q : CS → Prop} (h : wpX0_rest p1 p2 σ Q) : Met l yX0_rest (Cond.code yX0_rest cX0_rest 4 none :: wsA) rmX0_rest (mPc D (tyG g) A (cT g σ) [.ref (g.1 2002), .ref (g.1 (4 * p1 + 2)), .ref (g.1 (4 * p2 + 2))]) (va_Qv Q (fun u t => wd D A (cT g u) t.heap) A) 0 0 A :=
  m_met (by decide +kernel) (Nat.le_of_ble_eq_true rfl) (fun p e s m below meth c X hr H locs ls hw hS hl => wX0_rest_0 hg hp1 hp2 X hr σ h H locs ls hw hS (lv_sub hl [0, 1, 2] rfl))
theorem fX0_rest : vfit yX0_rest cX0_rest 4 none 2 := ⟨mw_319, mw_320, mw_43, mw_321, by decide +kernel, by decide +kernel, by decide +kernel⟩
/-! BigPolys$Bench.splits(LBigPolys$Poly;LBigPolys$Poly;)Z -/
def rmX0_splits : Room := { frames := 3, cells := 0, slots := 0, locals := 90 }
def wbX0_splits_93 (p1 : Nat) (p2 : Nat) (Q : Int32 → CS → Prop) (N37 : Int32 → CS → Prop) (N93 : Int32 → Int32 → CS → Prop) (i3 : Int32) (i5 : Int32) (σ : CS) : Prop :=
  ((cD σ p2) ≤ i5 →
    ∀ a1 : Int32, a1 = i3 + (-1 : Int32) →
    N37 a1 σ) ∧
  (¬ (cD σ p2) ≤ i5 →
    vp_in i3 (tlen 9) ∧ (
    vp_in i5 (tlen p2) ∧ (
    wpX3_product 320 (16 * 9 + i3.toNatClampNeg) (16 * p2 + i5.toNatClampNeg) σ (fun (σ5 : CS) =>
      vp_in (i5 + i3) (tlen 8) ∧ (
      wpX3_plus (16 * 8 + (i5 + i3).toNatClampNeg) 320 (-1 : Int32) σ5 (fun (σ8 : CS) =>
        ∀ a9 : Int32, a9 = i5 + (1 : Int32) →
        N93 i3 a9 σ8))))))
set_option maxRecDepth 100000 in
set_option maxHeartbeats 4000000 in
theorem wX0_splits_93 {p : Program} {l : Launch} {e : Env} {s : State} {m : MethodId} {args : Array Value} {below : List Frame} {meth : Method} {c : Code} {D : va_G} {A : Nat → Prop} {g : mG} (hg : inj g) {p1 : Nat} {p2 : Nat} (hp1 : p1 < 20) (hp2 : p2 < 20) (X : cx p m meth c s args cX0_splits 6 RX0 D (tyG g)) (hr : meth.sig.returnType = (some .boolean)) {Q : Int32 → CS → Prop} {N37 : Int32 → CS → Prop} (hN37 : ∀ (i3 : Int32) (σ : CS), N37 i3 σ → cW p l e rmX0_splits s m args below meth c (MQ below (va_Qi Q (fun u t => wd D A (cT g u) t.heap) A) args s 0 0 A) D A (cT g σ) 37 6 [(0, .ref (g.1 2002)), (1, .ref (g.1 (4 * p1 + 2))), (2, .ref (g.1 (4 * p2 + 2))), (3, .int i3)]) : ∀ (n : Nat) (i3 : Int32) (i5 : Int32) (σ : CS), lq3 (wbX0_splits_93 p1 p2 Q N37) n i3 i5 σ → cW p l e rmX0_splits s m args below meth c (MQ below (va_Qi Q (fun u t => wd D A (cT g u) t.heap) A) args s 0 0 A) D A (cT g σ) 93 6 [(0, .ref (g.1 2002)), (1, .ref (g.1 (4 * p1 + 2))), (2, .ref (g.1 (4 * p2 + 2))), (3, .int i3), (5, .int i5)] := by
  obtain ⟨hx, hb, hml, hown, hts, hK, hlk⟩ := id X
  intro n
  induction n with
  | zero =>
    intro i3 i5 σ h
    exact h.elim
  | succ n hN93 =>
    intro i3 i5 σ h H locs ls hw hS hl
    replace h : wbX0_splits_93 p1 p2 Q N37 (lq3 (wbX0_splits_93 p1 p2 Q N37) n) i3 i5 σ := h
    unfold wbX0_splits_93 at h
    refine lv_iload hx hb dX0_splits_93 (lv_at hl 4 rfl) ?_
    refine lv_aload_n hx hb dX0_splits_95 rfl (lv_at hl 2 rfl) ?_
    refine m_getN (v := .int (cD σ p2)) X hw (tP hp2) rfl inA_X2 1 (by decide) (List.mem_append_left _ (List.mem_map.mpr ⟨_, List.mem_of_getElem? (i := 8) rfl, rfl⟩)) rfl dX0_splits_96 ?_
    refine lv_icmp_ge (tgt := 151) hx hb dX0_splits_99 (by decide) (fun hc => ?_) (fun hc => ?_)
    · replace h := h.1 hc
      obtain ⟨a1, ea1⟩ : ∃ z : Int32, z = i3 + (-1 : Int32) := ⟨_, rfl⟩
      replace h := h a1 ea1
      refine lv_iinc (v := a1) (lv' := [(3, .int a1), (0, .ref (g.1 2002)), (1, .ref (g.1 (4 * p1 + 2))), (2, .ref (g.1 (4 * p2 + 2))), (5, .int i5)]) hx hb dX0_splits_151 hl (k := 3) rfl (by rw [ea1]; rfl) (by decide) rfl (fun ls hl => ?_)
      refine lv_goto (tgt := 37) hx hb dX0_splits_154 (by decide) ?_
      exact hN37 a1 _ h H locs ls hw hS (lv_sub hl [1, 2, 3, 0] rfl)
    · replace h := h.2 hc
      refine lv_aload_n hx hb dX0_splits_102 rfl (lv_at hl 0 rfl) ?_
      refine m_get (v := .ref (g.1 (4 * 320))) X hw tB rfl inA_X0 2 (by decide) mw_63 rfl dX0_splits_103 ?_
      refine lv_aload_n hx hb dX0_splits_106 rfl (lv_at hl 0 rfl) ?_
      refine m_get (v := .ref (g.1 (4 * 9 + 2))) X hw tB rfl inA_X0 1 (by decide) mw_61 rfl dX0_splits_107 ?_
      refine m_getN (v := .ref (g.1 (4 * 9 + 3))) X hw (tP (by decide : (9 : Nat) < 20)) rfl inA_X2 0 (by decide) (List.mem_append_left _ (List.mem_map.mpr ⟨_, List.mem_of_getElem? (i := 9) rfl, rfl⟩)) rfl dX0_splits_110 ?_
      refine lv_iload_n hx hb dX0_splits_113 rfl (lv_at hl 3 rfl) ?_
      obtain ⟨hi2, h⟩ := h
      refine m_aald X hw (tT (by decide : (9 : Nat) < 20)) 2 rfl hi2 dX0_splits_114 ?_
      refine lv_aload_n hx hb dX0_splits_115 rfl (lv_at hl 2 rfl) ?_
      refine m_getN (v := .ref (g.1 (4 * p2 + 3))) X hw (tP hp2) rfl inA_X2 0 (by decide) (List.mem_append_left _ (List.mem_map.mpr ⟨_, List.mem_of_getElem? (i := 9) rfl, rfl⟩)) rfl dX0_splits_116 ?_
      refine lv_iload hx hb dX0_splits_119 (lv_at hl 4 rfl) ?_
      obtain ⟨hi3, h⟩ := h
      refine m_aald X hw (tT hp2) 2 rfl hi3 dX0_splits_121 ?_
      refine m_cVv (TT := cT g) (As := [.ref (g.1 (4 * (16 * 9 + i3.toNatClampNeg))), .ref (g.1 (4 * (16 * p2 + i5.toNatClampNeg)))]) (rest := []) X hl.1 hw hS (kX3_product hg (okW_b (by decide)) (okW_t (by decide : (9 : Nat) < 20) hi2) (okW_t hp2 hi3) h) mw_255 fX3_product (tW (okW_b (by decide))) rfl rfl ⟨rfl, rfl, Nat.le_of_ble_eq_true rfl, Nat.le_of_ble_eq_true rfl⟩ rfl rfl (Nat.le_of_ble_eq_true rfl) dX0_splits_122 (fun σ5 H locs h hw hS => ?_)
      refine lv_aload_n hx hb dX0_splits_125 rfl (lv_at hl 0 rfl) ?_
      refine m_get (v := .ref (g.1 (4 * 8 + 2))) X hw tB rfl inA_X0 0 (by decide) mw_60 rfl dX0_splits_126 ?_
      refine m_getN (v := .ref (g.1 (4 * 8 + 3))) X hw (tP (by decide : (8 : Nat) < 20)) rfl inA_X2 0 (by decide) (List.mem_append_left _ (List.mem_map.mpr ⟨_, List.mem_of_getElem? (i := 9) rfl, rfl⟩)) rfl dX0_splits_129 ?_
      refine lv_iload hx hb dX0_splits_132 (lv_at hl 4 rfl) ?_
      refine lv_iload_n hx hb dX0_splits_134 rfl (lv_at hl 3 rfl) ?_
      refine lv_iadd hx hb dX0_splits_135 ?_
      obtain ⟨hi6, h⟩ := h
      refine m_aald X hw (tT (by decide : (8 : Nat) < 20)) 2 rfl hi6 dX0_splits_136 ?_
      refine lv_aload_n hx hb dX0_splits_137 rfl (lv_at hl 0 rfl) ?_
      refine m_get (v := .ref (g.1 (4 * 320))) X hw tB rfl inA_X0 2 (by decide) mw_63 rfl dX0_splits_138 ?_
      refine lv_iconst (v := (-1 : Int32)) hx hb dX0_splits_141 (by decide) ?_
      refine m_cVv (TT := cT g) (As := [.ref (g.1 (4 * 320)), .int (-1 : Int32)]) (rest := []) X hl.1 hw hS (kX3_plus hg (okW_t (by decide : (8 : Nat) < 20) hi6) (okW_b (by decide)) h) mw_197 fX3_plus (tW (okW_t (by decide : (8 : Nat) < 20) hi6)) rfl rfl ⟨rfl, rfl, Nat.le_of_ble_eq_true rfl, Nat.le_of_ble_eq_true rfl⟩ rfl rfl (Nat.le_of_ble_eq_true rfl) dX0_splits_142 (fun σ8 H locs h hw hS => ?_)
      obtain ⟨a9, ea9⟩ : ∃ z : Int32, z = i5 + (1 : Int32) := ⟨_, rfl⟩
      replace h := h a9 ea9
      refine lv_iinc (v := a9) (lv' := [(5, .int a9), (0, .ref (g.1 2002)), (1, .ref (g.1 (4 * p1 + 2))), (2, .ref (g.1 (4 * p2 + 2))), (3, .int i3)]) hx hb dX0_splits_145 hl (k := 4) rfl (by rw [ea9]; rfl) (by decide) rfl (fun ls hl => ?_)
      refine lv_goto (tgt := 93) hx hb dX0_splits_148 (by decide) ?_
      exact hN93 i3 a9 _ h H locs ls hw hS (lv_sub hl [1, 2, 3, 4, 0] rfl)
def wbX0_splits_37 (p1 : Nat) (p2 : Nat) (Q : Int32 → CS → Prop) (N37 : Int32 → CS → Prop) (i3 : Int32) (σ : CS) : Prop :=
  (i3 < 0 →
    wpX2_measure 9 σ (fun (σ11 : CS) =>
      wpX2_measure 8 σ11 (fun (σ13 : CS) =>
        (0 ≤ (cD σ13 8) →
          Q (0 : Int32) σ13) ∧
        (¬ 0 ≤ (cD σ13 8) →
          Q (1 : Int32) σ13)))) ∧
  (¬ i3 < 0 →
    vp_in ((cD σ p2) + i3) (tlen 8) ∧ (
    vp_in (cD σ p2) (tlen p2) ∧ (
    vp_in i3 (tlen 9) ∧ (
    wpX3_divide (16 * 8 + ((cD σ p2) + i3).toNatClampNeg) (16 * p2 + (cD σ p2).toNatClampNeg) (16 * 9 + i3.toNatClampNeg) σ (fun (σ18 : CS) =>
      ((cG σ18 (16 * 8 + ((cD σ p2) + i3).toNatClampNeg)) = 0 →
        ∃ n, lq3 (wbX0_splits_93 p1 p2 Q N37) n i3 (0 : Int32) σ18) ∧
      (¬ (cG σ18 (16 * 8 + ((cD σ p2) + i3).toNatClampNeg)) = 0 →
        Q (0 : Int32) σ18))))))
set_option maxRecDepth 100000 in
set_option maxHeartbeats 4000000 in
theorem wX0_splits_37 {p : Program} {l : Launch} {e : Env} {s : State} {m : MethodId} {args : Array Value} {below : List Frame} {meth : Method} {c : Code} {D : va_G} {A : Nat → Prop} {g : mG} (hg : inj g) {p1 : Nat} {p2 : Nat} (hp1 : p1 < 20) (hp2 : p2 < 20) (X : cx p m meth c s args cX0_splits 6 RX0 D (tyG g)) (hr : meth.sig.returnType = (some .boolean)) {Q : Int32 → CS → Prop} : ∀ (n : Nat) (i3 : Int32) (σ : CS), lq2 (wbX0_splits_37 p1 p2 Q) n i3 σ → cW p l e rmX0_splits s m args below meth c (MQ below (va_Qi Q (fun u t => wd D A (cT g u) t.heap) A) args s 0 0 A) D A (cT g σ) 37 6 [(0, .ref (g.1 2002)), (1, .ref (g.1 (4 * p1 + 2))), (2, .ref (g.1 (4 * p2 + 2))), (3, .int i3)] := by
  obtain ⟨hx, hb, hml, hown, hts, hK, hlk⟩ := id X
  intro n
  induction n with
  | zero =>
    intro i3 σ h
    exact h.elim
  | succ n hN37 =>
    intro i3 σ h H locs ls hw hS hl
    replace h : wbX0_splits_37 p1 p2 Q (lq2 (wbX0_splits_37 p1 p2 Q) n) i3 σ := h
    unfold wbX0_splits_37 at h
    refine lv_iload_n hx hb dX0_splits_37 rfl (lv_at hl 3 rfl) ?_
    refine lv_if_lt (tgt := 157) hx hb dX0_splits_38 (by decide) (fun hc => ?_) (fun hc => ?_)
    · replace h := h.1 hc
      refine lv_aload_n hx hb dX0_splits_157 rfl (lv_at hl 0 rfl) ?_
      refine m_get (v := .ref (g.1 (4 * 9 + 2))) X hw tB rfl inA_X0 1 (by decide) mw_61 rfl dX0_splits_158 ?_
      refine m_cVv (TT := cT g) (As := []) (rest := []) X hl.1 hw hS (kX2_measure hg (by decide : (9 : Nat) < 20) h) mw_217 fX2_measure (tP (by decide : (9 : Nat) < 20)) rfl rfl ⟨rfl, rfl, Nat.le_of_ble_eq_true rfl, Nat.le_of_ble_eq_true rfl⟩ rfl rfl (Nat.le_of_ble_eq_true rfl) dX0_splits_161 (fun σ11 H locs h hw hS => ?_)
      refine lv_aload_n hx hb dX0_splits_164 rfl (lv_at hl 0 rfl) ?_
      refine m_get (v := .ref (g.1 (4 * 8 + 2))) X hw tB rfl inA_X0 0 (by decide) mw_60 rfl dX0_splits_165 ?_
      refine m_cVv (TT := cT g) (As := []) (rest := []) X hl.1 hw hS (kX2_measure hg (by decide : (8 : Nat) < 20) h) mw_217 fX2_measure (tP (by decide : (8 : Nat) < 20)) rfl rfl ⟨rfl, rfl, Nat.le_of_ble_eq_true rfl, Nat.le_of_ble_eq_true rfl⟩ rfl rfl (Nat.le_of_ble_eq_true rfl) dX0_splits_168 (fun σ13 H locs h hw hS => ?_)
      refine lv_aload_n hx hb dX0_splits_171 rfl (lv_at hl 0 rfl) ?_
      refine m_get (v := .ref (g.1 (4 * 8 + 2))) X hw tB rfl inA_X0 0 (by decide) mw_60 rfl dX0_splits_172 ?_
      refine m_getN (v := .int (cD σ13 8)) X hw (tP (by decide : (8 : Nat) < 20)) rfl inA_X2 1 (by decide) (List.mem_append_left _ (List.mem_map.mpr ⟨_, List.mem_of_getElem? (i := 8) rfl, rfl⟩)) rfl dX0_splits_175 ?_
      refine lv_if_ge (tgt := 185) hx hb dX0_splits_178 (by decide) (fun hc => ?_) (fun hc => ?_)
      · replace h := h.1 hc
        refine lv_iconst (v := (0 : Int32)) hx hb dX0_splits_185 (by decide) ?_
        exact m_zret X hr rfl hw hS h dX0_splits_186
      · replace h := h.2 hc
        refine lv_iconst (v := (1 : Int32)) hx hb dX0_splits_181 (by decide) ?_
        refine lv_goto (tgt := 186) hx hb dX0_splits_182 (by decide) ?_
        exact m_zret X hr rfl hw hS h dX0_splits_186
    · replace h := h.2 hc
      refine lv_aload_n hx hb dX0_splits_41 rfl (lv_at hl 0 rfl) ?_
      refine m_get (v := .ref (g.1 (4 * 8 + 2))) X hw tB rfl inA_X0 0 (by decide) mw_60 rfl dX0_splits_42 ?_
      refine m_getN (v := .ref (g.1 (4 * 8 + 3))) X hw (tP (by decide : (8 : Nat) < 20)) rfl inA_X2 0 (by decide) (List.mem_append_left _ (List.mem_map.mpr ⟨_, List.mem_of_getElem? (i := 9) rfl, rfl⟩)) rfl dX0_splits_45 ?_
      refine lv_aload_n hx hb dX0_splits_48 rfl (lv_at hl 2 rfl) ?_
      refine m_getN (v := .int (cD σ p2)) X hw (tP hp2) rfl inA_X2 1 (by decide) (List.mem_append_left _ (List.mem_map.mpr ⟨_, List.mem_of_getElem? (i := 8) rfl, rfl⟩)) rfl dX0_splits_49 ?_
      refine lv_iload_n hx hb dX0_splits_52 rfl (lv_at hl 3 rfl) ?_
      refine lv_iadd hx hb dX0_splits_53 ?_
      obtain ⟨hi14, h⟩ := h
      refine m_aald X hw (tT (by decide : (8 : Nat) < 20)) 2 rfl hi14 dX0_splits_54 ?_
      refine lv_astore (lv' := [(4, .ref (g.1 (4 * (16 * 8 + ((cD σ p2) + i3).toNatClampNeg)))), (0, .ref (g.1 2002)), (1, .ref (g.1 (4 * p1 + 2))), (2, .ref (g.1 (4 * p2 + 2))), (3, .int i3)]) hx hb dX0_splits_55 hl (by decide) rfl (fun ls hl => ?_)
      refine lv_aload hx hb dX0_splits_57 (lv_at hl 0 rfl) ?_
      refine lv_aload_n hx hb dX0_splits_59 rfl (lv_at hl 3 rfl) ?_
      refine m_getN (v := .ref (g.1 (4 * p2 + 3))) X hw (tP hp2) rfl inA_X2 0 (by decide) (List.mem_append_left _ (List.mem_map.mpr ⟨_, List.mem_of_getElem? (i := 9) rfl, rfl⟩)) rfl dX0_splits_60 ?_
      refine lv_aload_n hx hb dX0_splits_63 rfl (lv_at hl 3 rfl) ?_
      refine m_getN (v := .int (cD σ p2)) X hw (tP hp2) rfl inA_X2 1 (by decide) (List.mem_append_left _ (List.mem_map.mpr ⟨_, List.mem_of_getElem? (i := 8) rfl, rfl⟩)) rfl dX0_splits_64 ?_
      obtain ⟨hi15, h⟩ := h
      refine m_aald X hw (tT hp2) 2 rfl hi15 dX0_splits_67 ?_
      refine lv_aload_n hx hb dX0_splits_68 rfl (lv_at hl 1 rfl) ?_
      refine m_get (v := .ref (g.1 (4 * 9 + 2))) X hw tB rfl inA_X0 1 (by decide) mw_61 rfl dX0_splits_69 ?_
      refine m_getN (v := .ref (g.1 (4 * 9 + 3))) X hw (tP (by decide : (9 : Nat) < 20)) rfl inA_X2 0 (by decide) (List.mem_append_left _ (List.mem_map.mpr ⟨_, List.mem_of_getElem? (i := 9) rfl, rfl⟩)) rfl dX0_splits_72 ?_
      refine lv_iload_n hx hb dX0_splits_75 rfl (lv_at hl 4 rfl) ?_
      obtain ⟨hi16, h⟩ := h
      refine m_aald X hw (tT (by decide : (9 : Nat) < 20)) 2 rfl hi16 dX0_splits_76 ?_
      refine m_cVv (TT := cT g) (As := [.ref (g.1 (4 * (16 * p2 + (cD σ p2).toNatClampNeg))), .ref (g.1 (4 * (16 * 9 + i3.toNatClampNeg)))]) (rest := []) X hl.1 hw hS (kX3_divide hg (okW_t (by decide : (8 : Nat) < 20) hi14) (okW_t hp2 hi15) (okW_t (by decide : (9 : Nat) < 20) hi16) h) mw_356 fX3_divide (tW (okW_t (by decide : (8 : Nat) < 20) hi14)) rfl rfl ⟨rfl, rfl, Nat.le_of_ble_eq_true rfl, Nat.le_of_ble_eq_true rfl⟩ rfl rfl (Nat.le_of_ble_eq_true rfl) dX0_splits_77 (fun σ18 H locs h hw hS => ?_)
      refine lv_aload hx hb dX0_splits_80 (lv_at hl 0 rfl) ?_
      refine m_getN (v := .int (cG σ18 (16 * 8 + ((cD σ p2) + i3).toNatClampNeg))) X hw (tW (okW_t (by decide : (8 : Nat) < 20) hi14)) rfl inA_X3 2 (by decide) (List.mem_append_left _ (List.mem_map.mpr ⟨_, List.mem_of_getElem? (i := 10) rfl, rfl⟩)) rfl dX0_splits_82 ?_
      refine lv_if_eq (tgt := 90) hx hb dX0_splits_85 (by decide) (fun hc => ?_) (fun hc => ?_)
      · replace h := h.1 hc
        refine lv_iconst (v := (0 : Int32)) hx hb dX0_splits_90 (by decide) ?_
        refine lv_istore (lv' := [(5, .int (0 : Int32)), (4, .ref (g.1 (4 * (16 * 8 + ((cD σ p2) + i3).toNatClampNeg)))), (0, .ref (g.1 2002)), (1, .ref (g.1 (4 * p1 + 2))), (2, .ref (g.1 (4 * p2 + 2))), (3, .int i3)]) hx hb dX0_splits_91 hl (by decide) rfl (fun ls hl => ?_)
        obtain ⟨n9, h⟩ := h
        exact wX0_splits_93 hg hp1 hp2 X hr hN37 n9 i3 (0 : Int32) _ h H locs ls hw hS (lv_sub hl [2, 3, 4, 5, 0] rfl)
      · replace h := h.2 hc
        refine lv_iconst (v := (0 : Int32)) hx hb dX0_splits_88 (by decide) ?_
        exact m_zret X hr rfl hw hS h dX0_splits_89
def wpX0_splits_0 (p1 : Nat) (p2 : Nat) (Q : Int32 → CS → Prop) (σ : CS) : Prop :=
  (0 ≤ (cD σ p2) →
    wpX2_load 8 p1 σ (fun (σ20 : CS) =>
      wpX2_clear 9 σ20 (fun (σ22 : CS) =>
        ∀ a23 : Int32, a23 = (cD σ22 8) - (cD σ22 p2) →
        ∃ n, lq2 (wbX0_splits_37 p1 p2 Q) n a23 σ22))) ∧
  (¬ 0 ≤ (cD σ p2) →
    Q (0 : Int32) σ)
set_option maxRecDepth 100000 in
set_option maxHeartbeats 4000000 in
theorem wX0_splits_0 {p : Program} {l : Launch} {e : Env} {s : State} {m : MethodId} {args : Array Value} {below : List Frame} {meth : Method} {c : Code} {D : va_G} {A : Nat → Prop} {g : mG} (hg : inj g) {p1 : Nat} {p2 : Nat} (hp1 : p1 < 20) (hp2 : p2 < 20) (X : cx p m meth c s args cX0_splits 6 RX0 D (tyG g)) (hr : meth.sig.returnType = (some .boolean)) {Q : Int32 → CS → Prop} : ∀ (σ : CS), wpX0_splits_0 p1 p2 Q σ → cW p l e rmX0_splits s m args below meth c (MQ below (va_Qi Q (fun u t => wd D A (cT g u) t.heap) A) args s 0 0 A) D A (cT g σ) 0 6 [(0, .ref (g.1 2002)), (1, .ref (g.1 (4 * p1 + 2))), (2, .ref (g.1 (4 * p2 + 2)))] := by
  obtain ⟨hx, hb, hml, hown, hts, hK, hlk⟩ := id X
  intro σ h H locs ls hw hS hl
  unfold wpX0_splits_0 at h
  refine lv_aload_n hx hb dX0_splits_0 rfl (lv_at hl 2 rfl) ?_
  refine m_getN (v := .int (cD σ p2)) X hw (tP hp2) rfl inA_X2 1 (by decide) (List.mem_append_left _ (List.mem_map.mpr ⟨_, List.mem_of_getElem? (i := 8) rfl, rfl⟩)) rfl dX0_splits_1 ?_
  refine lv_if_ge (tgt := 9) hx hb dX0_splits_4 (by decide) (fun hc => ?_) (fun hc => ?_)
  · replace h := h.1 hc
    refine lv_aload_n hx hb dX0_splits_9 rfl (lv_at hl 0 rfl) ?_
    refine m_get (v := .ref (g.1 (4 * 8 + 2))) X hw tB rfl inA_X0 0 (by decide) mw_60 rfl dX0_splits_10 ?_
    refine lv_aload_n hx hb dX0_splits_13 rfl (lv_at hl 1 rfl) ?_
    refine m_cVv (TT := cT g) (As := [.ref (g.1 (4 * p1 + 2))]) (rest := []) X hl.1 hw hS (kX2_load hg (by decide : (8 : Nat) < 20) hp1 h) mw_178 fX2_load (tP (by decide : (8 : Nat) < 20)) rfl rfl ⟨rfl, rfl, Nat.le_of_ble_eq_true rfl, Nat.le_of_ble_eq_true rfl⟩ rfl rfl (Nat.le_of_ble_eq_true rfl) dX0_splits_14 (fun σ20 H locs h hw hS => ?_)
    refine lv_aload_n hx hb dX0_splits_17 rfl (lv_at hl 0 rfl) ?_
    refine m_get (v := .ref (g.1 (4 * 9 + 2))) X hw tB rfl inA_X0 1 (by decide) mw_61 rfl dX0_splits_18 ?_
    refine m_cVv (TT := cT g) (As := []) (rest := []) X hl.1 hw hS (kX2_clear hg (by decide : (9 : Nat) < 20) h) mw_251 fX2_clear (tP (by decide : (9 : Nat) < 20)) rfl rfl ⟨rfl, rfl, Nat.le_of_ble_eq_true rfl, Nat.le_of_ble_eq_true rfl⟩ rfl rfl (Nat.le_of_ble_eq_true rfl) dX0_splits_21 (fun σ22 H locs h hw hS => ?_)
    refine lv_aload_n hx hb dX0_splits_24 rfl (lv_at hl 0 rfl) ?_
    refine m_get (v := .ref (g.1 (4 * 8 + 2))) X hw tB rfl inA_X0 0 (by decide) mw_60 rfl dX0_splits_25 ?_
    refine m_getN (v := .int (cD σ22 8)) X hw (tP (by decide : (8 : Nat) < 20)) rfl inA_X2 1 (by decide) (List.mem_append_left _ (List.mem_map.mpr ⟨_, List.mem_of_getElem? (i := 8) rfl, rfl⟩)) rfl dX0_splits_28 ?_
    refine lv_aload_n hx hb dX0_splits_31 rfl (lv_at hl 2 rfl) ?_
    refine m_getN (v := .int (cD σ22 p2)) X hw (tP hp2) rfl inA_X2 1 (by decide) (List.mem_append_left _ (List.mem_map.mpr ⟨_, List.mem_of_getElem? (i := 8) rfl, rfl⟩)) rfl dX0_splits_32 ?_
    refine lv_isub hx hb dX0_splits_35 ?_
    refine lv_topi (fun a23 ea23 => ?_)
    replace h := h a23 ea23
    refine lv_istore_n (lv' := [(3, .int a23), (0, .ref (g.1 2002)), (1, .ref (g.1 (4 * p1 + 2))), (2, .ref (g.1 (4 * p2 + 2)))]) hx hb dX0_splits_36 rfl hl (by decide) rfl (fun ls hl => ?_)
    obtain ⟨n9, h⟩ := h
    exact wX0_splits_37 hg hp1 hp2 X hr n9 a23 _ h H locs ls hw hS (lv_sub hl [1, 2, 3, 0] rfl)
  · replace h := h.2 hc
    refine lv_iconst (v := (0 : Int32)) hx hb dX0_splits_7 (by decide) ?_
    exact m_zret X hr rfl hw hS h dX0_splits_8
def wpX0_splits (p1 : Nat) (p2 : Nat) (σ : CS) (Q : Int32 → CS → Prop) : Prop := wpX0_splits_0 p1 p2 Q σ
theorem kX0_splits {l : Launch} {D : va_G} {A : Nat → Prop} {g : mG} (hg : inj g) {p1 : Nat} {p2 : Nat} (hp1 : p1 < 20) (hp2 : p2 < 20) {σ : CS} {Q : Int32 → CS → Prop} (h : wpX0_splits p1 p2 σ Q) : Met l yX0_splits (Cond.code yX0_splits cX0_splits 6 (some .boolean) :: wsA) rmX0_splits (mPc D (tyG g) A (cT g σ) [.ref (g.1 2002), .ref (g.1 (4 * p1 + 2)), .ref (g.1 (4 * p2 + 2))]) (va_Qi Q (fun u t => wd D A (cT g u) t.heap) A) 0 0 A :=
  m_met (by decide +kernel) (Nat.le_of_ble_eq_true rfl) (fun p e s m below meth c X hr H locs ls hw hS hl => wX0_splits_0 hg hp1 hp2 X hr σ h H locs ls hw hS (lv_sub hl [0, 1, 2] rfl))
theorem fX0_splits : vfit yX0_splits cX0_splits 6 (some .boolean) 2 := ⟨mw_353, mw_354, mw_43, mw_355, by decide +kernel, by decide +kernel, by decide +kernel⟩
/-! BigPolys$Bench.signAt(LBigPolys$Poly;JJ)I -/
def rmX0_signAt : Room := { frames := 3, cells := 0, slots := 0, locals := 77 }
def wbX0_signAt_20 (p1 : Nat) (y2 : Int64) (y3 : Int64) (Q : Int32 → CS → Prop) (N20 : Int32 → CS → Prop) (i6 : Int32) (σ : CS) : Prop :=
  (i6 < 0 →
    Q (cG σ 320) σ) ∧
  (¬ i6 < 0 →
    wpX3_scale 320 y2 σ (fun (σ2 : CS) =>
      vp_in i6 (tlen p1) ∧ (
      wpX3_product 322 (16 * p1 + i6.toNatClampNeg) 321 σ2 (fun (σ5 : CS) =>
        wpX3_plus 320 322 (1 : Int32) σ5 (fun (σ7 : CS) =>
          wpX3_scale 321 y3 σ7 (fun (σ9 : CS) =>
            ∀ a10 : Int32, a10 = i6 + (-1 : Int32) →
            N20 a10 σ9))))))
set_option maxRecDepth 100000 in
set_option maxHeartbeats 4000000 in
theorem wX0_signAt_20 {p : Program} {l : Launch} {e : Env} {s : State} {m : MethodId} {args : Array Value} {below : List Frame} {meth : Method} {c : Code} {D : va_G} {A : Nat → Prop} {g : mG} (hg : inj g) {p1 : Nat} {y2 : Int64} {y3 : Int64} (hp1 : p1 < 20) (X : cx p m meth c s args cX0_signAt 7 RX0 D (tyG g)) (hr : meth.sig.returnType = (some .int)) {Q : Int32 → CS → Prop} : ∀ (n : Nat) (i6 : Int32) (σ : CS), lq2 (wbX0_signAt_20 p1 y2 y3 Q) n i6 σ → cW p l e rmX0_signAt s m args below meth c (MQ below (va_Qi Q (fun u t => wd D A (cT g u) t.heap) A) args s 0 0 A) D A (cT g σ) 20 7 [(0, .ref (g.1 2002)), (1, .ref (g.1 (4 * p1 + 2))), (2, .long y2), (4, .long y3), (6, .int i6)] := by
  obtain ⟨hx, hb, hml, hown, hts, hK, hlk⟩ := id X
  intro n
  induction n with
  | zero =>
    intro i6 σ h
    exact h.elim
  | succ n hN20 =>
    intro i6 σ h H locs ls hw hS hl
    replace h : wbX0_signAt_20 p1 y2 y3 Q (lq2 (wbX0_signAt_20 p1 y2 y3 Q) n) i6 σ := h
    unfold wbX0_signAt_20 at h
    refine lv_iload hx hb dX0_signAt_20 (lv_at hl 4 rfl) ?_
    refine lv_if_lt (tgt := 78) hx hb dX0_signAt_22 (by decide) (fun hc => ?_) (fun hc => ?_)
    · replace h := h.1 hc
      refine lv_aload_n hx hb dX0_signAt_78 rfl (lv_at hl 0 rfl) ?_
      refine m_get (v := .ref (g.1 (4 * 320))) X hw tB rfl inA_X0 2 (by decide) mw_63 rfl dX0_signAt_79 ?_
      refine m_getN (v := .int (cG σ 320)) X hw (tW (okW_b (by decide))) rfl inA_X3 2 (by decide) (List.mem_append_left _ (List.mem_map.mpr ⟨_, List.mem_of_getElem? (i := 10) rfl, rfl⟩)) rfl dX0_signAt_82 ?_
      exact m_iret X hr hw hS h dX0_signAt_85
    · replace h := h.2 hc
      refine lv_aload_n hx hb dX0_signAt_25 rfl (lv_at hl 0 rfl) ?_
      refine m_get (v := .ref (g.1 (4 * 320))) X hw tB rfl inA_X0 2 (by decide) mw_63 rfl dX0_signAt_26 ?_
      refine lv_lload_n hx hb dX0_signAt_29 rfl (lv_at hl 2 rfl) ?_
      refine m_cVv (TT := cT g) (As := [.long y2]) (rest := []) X hl.1 hw hS (kX3_scale hg (okW_b (by decide)) h) mw_309 fX3_scale (tW (okW_b (by decide))) rfl rfl ⟨rfl, rfl, Nat.le_of_ble_eq_true rfl, Nat.le_of_ble_eq_true rfl⟩ rfl rfl (Nat.le_of_ble_eq_true rfl) dX0_signAt_30 (fun σ2 H locs h hw hS => ?_)
      refine lv_aload_n hx hb dX0_signAt_33 rfl (lv_at hl 0 rfl) ?_
      refine m_get (v := .ref (g.1 (4 * 322))) X hw tB rfl inA_X0 4 (by decide) mw_65 rfl dX0_signAt_34 ?_
      refine lv_aload_n hx hb dX0_signAt_37 rfl (lv_at hl 1 rfl) ?_
      refine m_getN (v := .ref (g.1 (4 * p1 + 3))) X hw (tP hp1) rfl inA_X2 0 (by decide) (List.mem_append_left _ (List.mem_map.mpr ⟨_, List.mem_of_getElem? (i := 9) rfl, rfl⟩)) rfl dX0_signAt_38 ?_
      refine lv_iload hx hb dX0_signAt_41 (lv_at hl 4 rfl) ?_
      obtain ⟨hi3, h⟩ := h
      refine m_aald X hw (tT hp1) 2 rfl hi3 dX0_signAt_43 ?_
      refine lv_aload_n hx hb dX0_signAt_44 rfl (lv_at hl 0 rfl) ?_
      refine m_get (v := .ref (g.1 (4 * 321))) X hw tB rfl inA_X0 3 (by decide) mw_64 rfl dX0_signAt_45 ?_
      refine m_cVv (TT := cT g) (As := [.ref (g.1 (4 * (16 * p1 + i6.toNatClampNeg))), .ref (g.1 (4 * 321))]) (rest := []) X hl.1 hw hS (kX3_product hg (okW_b (by decide)) (okW_t hp1 hi3) (okW_b (by decide)) h) mw_255 fX3_product (tW (okW_b (by decide))) rfl rfl ⟨rfl, rfl, Nat.le_of_ble_eq_true rfl, Nat.le_of_ble_eq_true rfl⟩ rfl rfl (Nat.le_of_ble_eq_true rfl) dX0_signAt_48 (fun σ5 H locs h hw hS => ?_)
      refine lv_aload_n hx hb dX0_signAt_51 rfl (lv_at hl 0 rfl) ?_
      refine m_get (v := .ref (g.1 (4 * 320))) X hw tB rfl inA_X0 2 (by decide) mw_63 rfl dX0_signAt_52 ?_
      refine lv_aload_n hx hb dX0_signAt_55 rfl (lv_at hl 0 rfl) ?_
      refine m_get (v := .ref (g.1 (4 * 322))) X hw tB rfl inA_X0 4 (by decide) mw_65 rfl dX0_signAt_56 ?_
      refine lv_iconst (v := (1 : Int32)) hx hb dX0_signAt_59 (by decide) ?_
      refine m_cVv (TT := cT g) (As := [.ref (g.1 (4 * 322)), .int (1 : Int32)]) (rest := []) X hl.1 hw hS (kX3_plus hg (okW_b (by decide)) (okW_b (by decide)) h) mw_197 fX3_plus (tW (okW_b (by decide))) rfl rfl ⟨rfl, rfl, Nat.le_of_ble_eq_true rfl, Nat.le_of_ble_eq_true rfl⟩ rfl rfl (Nat.le_of_ble_eq_true rfl) dX0_signAt_60 (fun σ7 H locs h hw hS => ?_)
      refine lv_aload_n hx hb dX0_signAt_63 rfl (lv_at hl 0 rfl) ?_
      refine m_get (v := .ref (g.1 (4 * 321))) X hw tB rfl inA_X0 3 (by decide) mw_64 rfl dX0_signAt_64 ?_
      refine lv_lload hx hb dX0_signAt_67 (lv_at hl 3 rfl) ?_
      refine m_cVv (TT := cT g) (As := [.long y3]) (rest := []) X hl.1 hw hS (kX3_scale hg (okW_b (by decide)) h) mw_309 fX3_scale (tW (okW_b (by decide))) rfl rfl ⟨rfl, rfl, Nat.le_of_ble_eq_true rfl, Nat.le_of_ble_eq_true rfl⟩ rfl rfl (Nat.le_of_ble_eq_true rfl) dX0_signAt_69 (fun σ9 H locs h hw hS => ?_)
      obtain ⟨a10, ea10⟩ : ∃ z : Int32, z = i6 + (-1 : Int32) := ⟨_, rfl⟩
      replace h := h a10 ea10
      refine lv_iinc (v := a10) (lv' := [(6, .int a10), (0, .ref (g.1 2002)), (1, .ref (g.1 (4 * p1 + 2))), (2, .long y2), (4, .long y3)]) hx hb dX0_signAt_72 hl (k := 4) rfl (by rw [ea10]; rfl) (by decide) rfl (fun ls hl => ?_)
      refine lv_goto (tgt := 20) hx hb dX0_signAt_75 (by decide) ?_
      exact hN20 a10 _ h H locs ls hw hS (lv_sub hl [1, 2, 3, 4, 0] rfl)
def wpX0_signAt_0 (p1 : Nat) (y2 : Int64) (y3 : Int64) (Q : Int32 → CS → Prop) (σ : CS) : Prop :=
  wpX3_clear 320 σ (fun (σ12 : CS) =>
    wpX3_setOne 321 σ12 (fun (σ14 : CS) =>
      ∀ a15 : Int32, a15 = cD σ14 p1 →
      ∃ n, lq2 (wbX0_signAt_20 p1 y2 y3 Q) n a15 σ14))
set_option maxRecDepth 100000 in
set_option maxHeartbeats 4000000 in
theorem wX0_signAt_0 {p : Program} {l : Launch} {e : Env} {s : State} {m : MethodId} {args : Array Value} {below : List Frame} {meth : Method} {c : Code} {D : va_G} {A : Nat → Prop} {g : mG} (hg : inj g) {p1 : Nat} {y2 : Int64} {y3 : Int64} (hp1 : p1 < 20) (X : cx p m meth c s args cX0_signAt 7 RX0 D (tyG g)) (hr : meth.sig.returnType = (some .int)) {Q : Int32 → CS → Prop} : ∀ (σ : CS), wpX0_signAt_0 p1 y2 y3 Q σ → cW p l e rmX0_signAt s m args below meth c (MQ below (va_Qi Q (fun u t => wd D A (cT g u) t.heap) A) args s 0 0 A) D A (cT g σ) 0 7 [(0, .ref (g.1 2002)), (1, .ref (g.1 (4 * p1 + 2))), (2, .long y2), (4, .long y3)] := by
  obtain ⟨hx, hb, hml, hown, hts, hK, hlk⟩ := id X
  intro σ h H locs ls hw hS hl
  unfold wpX0_signAt_0 at h
  refine lv_aload_n hx hb dX0_signAt_0 rfl (lv_at hl 0 rfl) ?_
  refine m_get (v := .ref (g.1 (4 * 320))) X hw tB rfl inA_X0 2 (by decide) mw_63 rfl dX0_signAt_1 ?_
  refine m_cVv (TT := cT g) (As := []) (rest := []) X hl.1 hw hS (kX3_clear hg (okW_b (by decide)) h) mw_326 fX3_clear (tW (okW_b (by decide))) rfl rfl ⟨rfl, rfl, Nat.le_of_ble_eq_true rfl, Nat.le_of_ble_eq_true rfl⟩ rfl rfl (Nat.le_of_ble_eq_true rfl) dX0_signAt_4 (fun σ12 H locs h hw hS => ?_)
  refine lv_aload_n hx hb dX0_signAt_7 rfl (lv_at hl 0 rfl) ?_
  refine m_get (v := .ref (g.1 (4 * 321))) X hw tB rfl inA_X0 3 (by decide) mw_64 rfl dX0_signAt_8 ?_
  refine m_cVv (TT := cT g) (As := []) (rest := []) X hl.1 hw hS (kX3_setOne hg (okW_b (by decide)) h) mw_513 fX3_setOne (tW (okW_b (by decide))) rfl rfl ⟨rfl, rfl, Nat.le_of_ble_eq_true rfl, Nat.le_of_ble_eq_true rfl⟩ rfl rfl (Nat.le_of_ble_eq_true rfl) dX0_signAt_11 (fun σ14 H locs h hw hS => ?_)
  refine lv_aload_n hx hb dX0_signAt_14 rfl (lv_at hl 1 rfl) ?_
  refine m_getN (v := .int (cD σ14 p1)) X hw (tP hp1) rfl inA_X2 1 (by decide) (List.mem_append_left _ (List.mem_map.mpr ⟨_, List.mem_of_getElem? (i := 8) rfl, rfl⟩)) rfl dX0_signAt_15 ?_
  refine lv_topi (fun a15 ea15 => ?_)
  replace h := h a15 ea15
  refine lv_istore (lv' := [(6, .int a15), (0, .ref (g.1 2002)), (1, .ref (g.1 (4 * p1 + 2))), (2, .long y2), (4, .long y3)]) hx hb dX0_signAt_18 hl (by decide) rfl (fun ls hl => ?_)
  obtain ⟨n9, h⟩ := h
  exact wX0_signAt_20 hg hp1 X hr n9 a15 _ h H locs ls hw hS (lv_sub hl [1, 2, 3, 4, 0] rfl)
def wpX0_signAt (p1 : Nat) (y2 : Int64) (y3 : Int64) (σ : CS) (Q : Int32 → CS → Prop) : Prop := wpX0_signAt_0 p1 y2 y3 Q σ
theorem kX0_signAt {l : Launch} {D : va_G} {A : Nat → Prop} {g : mG} (hg : inj g) {p1 : Nat} {y2 : Int64} {y3 : Int64} (hp1 : p1 < 20) {σ : CS} {Q : Int32 → CS → Prop} (h : wpX0_signAt p1 y2 y3 σ Q) : Met l yX0_signAt (Cond.code yX0_signAt cX0_signAt 7 (some .int) :: wsA) rmX0_signAt (mPc D (tyG g) A (cT g σ) [.ref (g.1 2002), .ref (g.1 (4 * p1 + 2)), .long y2, .long y3]) (va_Qi Q (fun u t => wd D A (cT g u) t.heap) A) 0 0 A :=
  m_met (by decide +kernel) (Nat.le_of_ble_eq_true rfl) (fun p e s m below meth c X hr H locs ls hw hS hl => wX0_signAt_0 hg hp1 X hr σ h H locs ls hw hS (lv_sub hl [0, 1, 2, 3] rfl))
theorem fX0_signAt : vfit yX0_signAt cX0_signAt 7 (some .int) 3 := ⟨mw_510, mw_511, mw_43, mw_512, by decide +kernel, by decide +kernel, by decide +kernel⟩
