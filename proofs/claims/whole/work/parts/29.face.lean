/-! BigPolys.sign(III)I -/
def rmX4_sign : Room := { frames := 4, cells := 0, slots := 0, locals := 103 }
def wpX4_sign_27 (x1 : Int32) (x2 : Int32) (x3 : Int32) (Q : Int32 → CS → Prop) (l4 : Int64) (σ : CS) : Prop :=
  vp_in x1 8 ∧ (
  ∀ b2 : Int64, b2 = (if 0 < x3.toInt64 then x3.toInt64 else -x3.toInt64) →
  wpX0_signAt x1.toNatClampNeg l4 b2 σ (fun (r3 : Int32) (σ4 : CS) =>
    Q r3 σ4))
set_option maxRecDepth 100000 in
set_option maxHeartbeats 4000000 in
theorem wX4_sign_27 {p : Program} {l : Launch} {e : Env} {s : State} {m : MethodId} {args : Array Value} {below : List Frame} {meth : Method} {c : Code} {D : va_G} {A : Nat → Prop} {g : mG} (hg : inj g) {x1 : Int32} {x2 : Int32} {x3 : Int32} (X : cx p m meth c s args cX4_sign 6 RX4 D (tyG g)) (hr : meth.sig.returnType = (some .int)) {Q : Int32 → CS → Prop} : ∀ (l4 : Int64) (σ : CS), wpX4_sign_27 x1 x2 x3 Q l4 σ → cW p l e rmX4_sign s m args below meth c (MQ below (va_Qi Q (fun u t => wd D A (cT g u) t.heap) A) args s 0 0 A) D A (cT g σ) 27 6 [(0, .ref (g.1 2010)), (1, .int x1), (2, .int x2), (3, .int x3), (4, .long l4)] := by
  obtain ⟨hx, hb, hml, hown, hts, hK, hlk⟩ := id X
  intro l4 σ h H locs ls hw hS hl
  unfold wpX4_sign_27 at h
  refine lv_aload_n hx hb dX4_sign_27 rfl (lv_at hl 0 rfl) ?_
  refine m_get (v := .ref (g.1 2002)) X hw tG rfl inA_X4 1 (by decide) mw_20 rfl dX4_sign_28 ?_
  refine lv_aload_n hx hb dX4_sign_31 rfl (lv_at hl 0 rfl) ?_
  refine m_get (v := .ref (g.1 2007)) X hw tG rfl inA_X4 0 (by decide) mw_13 rfl dX4_sign_32 ?_
  refine lv_iload_n hx hb dX4_sign_35 rfl (lv_at hl 1 rfl) ?_
  obtain ⟨hi1, h⟩ := h
  refine m_aald X hw tR 3 rfl hi1 dX4_sign_36 ?_
  refine lv_lload hx hb dX4_sign_37 (lv_at hl 4 rfl) ?_
  refine lv_iload_n hx hb dX4_sign_39 rfl (lv_at hl 3 rfl) ?_
  refine lv_i2l (v := x3.toInt64) hx hb dX4_sign_40 rfl ?_
  refine va_mabs_long hx hb (hml.trans hl.1.symm) hown (hts _ mw_506) (hts _ mw_507) (hts _ mw_54) (hts _ mw_508) (Nat.le_of_ble_eq_true rfl) (Nat.le_of_ble_eq_true rfl) (Nat.zero_le _) (Nat.zero_le _) dX4_sign_41 ?_
  refine lv_topl (fun b2 eb2 => ?_)
  replace h := h b2 eb2
  refine m_cVi (TT := cT g) (As := [.ref (g.1 (4 * x1.toNatClampNeg + 2)), .long l4, .long b2]) (rest := []) X hl.1 hw hS (kX0_signAt hg (okP_r hi1) h) mw_509 fX0_signAt tB rfl rfl ⟨rfl, rfl, Nat.le_of_ble_eq_true rfl, Nat.le_of_ble_eq_true rfl⟩ rfl rfl (Nat.le_of_ble_eq_true rfl) dX4_sign_44 (fun r3 σ4 H locs h hw hS => ?_)
  exact m_iret X hr hw hS h dX4_sign_47
def wpX4_sign_11 (x1 : Int32) (x2 : Int32) (x3 : Int32) (Q : Int32 → CS → Prop) (σ : CS) : Prop :=
  Q (2 : Int32) σ
set_option maxRecDepth 100000 in
set_option maxHeartbeats 4000000 in
theorem wX4_sign_11 {p : Program} {l : Launch} {e : Env} {s : State} {m : MethodId} {args : Array Value} {below : List Frame} {meth : Method} {c : Code} {D : va_G} {A : Nat → Prop} {g : mG} (hg : inj g) {x1 : Int32} {x2 : Int32} {x3 : Int32} (X : cx p m meth c s args cX4_sign 6 RX4 D (tyG g)) (hr : meth.sig.returnType = (some .int)) {Q : Int32 → CS → Prop} : ∀ (σ : CS), wpX4_sign_11 x1 x2 x3 Q σ → cW p l e rmX4_sign s m args below meth c (MQ below (va_Qi Q (fun u t => wd D A (cT g u) t.heap) A) args s 0 0 A) D A (cT g σ) 11 6 [(0, .ref (g.1 2010)), (1, .int x1), (2, .int x2), (3, .int x3)] := by
  obtain ⟨hx, hb, hml, hown, hts, hK, hlk⟩ := id X
  intro σ h H locs ls hw hS hl
  unfold wpX4_sign_11 at h
  refine lv_iconst (v := (2 : Int32)) hx hb dX4_sign_11 (by decide) ?_
  exact m_iret X hr hw hS h dX4_sign_12
def wpX4_sign_0 (x1 : Int32) (x2 : Int32) (x3 : Int32) (Q : Int32 → CS → Prop) (σ : CS) : Prop :=
  wpX4_isRegister x1 σ (fun (r5 : Int32) (σ6 : CS) =>
    (r5 = 0 →
      wpX4_sign_11 x1 x2 x3 Q σ6) ∧
    (¬ r5 = 0 →
      (¬ x3 = 0 →
        (0 ≤ x3 →
          wpX4_sign_27 x1 x2 x3 Q x2.toInt64 σ6) ∧
        (¬ 0 ≤ x3 →
          ∀ b7 : Int64, b7 = -x2.toInt64 →
          wpX4_sign_27 x1 x2 x3 Q b7 σ6)) ∧
      (x3 = 0 →
        wpX4_sign_11 x1 x2 x3 Q σ6)))
set_option maxRecDepth 100000 in
set_option maxHeartbeats 4000000 in
theorem wX4_sign_0 {p : Program} {l : Launch} {e : Env} {s : State} {m : MethodId} {args : Array Value} {below : List Frame} {meth : Method} {c : Code} {D : va_G} {A : Nat → Prop} {g : mG} (hg : inj g) {x1 : Int32} {x2 : Int32} {x3 : Int32} (X : cx p m meth c s args cX4_sign 6 RX4 D (tyG g)) (hr : meth.sig.returnType = (some .int)) {Q : Int32 → CS → Prop} : ∀ (σ : CS), wpX4_sign_0 x1 x2 x3 Q σ → cW p l e rmX4_sign s m args below meth c (MQ below (va_Qi Q (fun u t => wd D A (cT g u) t.heap) A) args s 0 0 A) D A (cT g σ) 0 6 [(0, .ref (g.1 2010)), (1, .int x1), (2, .int x2), (3, .int x3)] := by
  obtain ⟨hx, hb, hml, hown, hts, hK, hlk⟩ := id X
  intro σ h H locs ls hw hS hl
  unfold wpX4_sign_0 at h
  refine lv_iload_n hx hb dX4_sign_0 rfl (lv_at hl 1 rfl) ?_
  refine m_cSi (TT := cT g) (As := [.int x1]) (rest := []) X hl.1 hw hS (kX4_isRegister hg h) mw_93 fX4_isRegister ⟨rfl, rfl, Nat.le_of_ble_eq_true rfl, Nat.le_of_ble_eq_true rfl⟩ rfl rfl (Nat.le_of_ble_eq_true rfl) dX4_sign_1 (fun r5 σ6 H locs h hw hS => ?_)
  refine lv_if_eq (tgt := 11) hx hb dX4_sign_4 (by decide) (fun hc => ?_) (fun hc => ?_)
  · replace h := h.1 hc
    exact wX4_sign_11 hg X hr _ h H locs ls hw hS (lv_sub hl [0, 1, 2, 3] rfl)
  · replace h := h.2 hc
    refine lv_iload_n hx hb dX4_sign_7 rfl (lv_at hl 3 rfl) ?_
    refine lv_if_ne (tgt := 13) hx hb dX4_sign_8 (by decide) (fun hc => ?_) (fun hc => ?_)
    · replace h := h.1 hc
      refine lv_iload_n hx hb dX4_sign_13 rfl (lv_at hl 3 rfl) ?_
      refine lv_if_ge (tgt := 23) hx hb dX4_sign_14 (by decide) (fun hc => ?_) (fun hc => ?_)
      · replace h := h.1 hc
        refine lv_iload_n hx hb dX4_sign_23 rfl (lv_at hl 2 rfl) ?_
        refine lv_i2l (v := x2.toInt64) hx hb dX4_sign_24 rfl ?_
        refine lv_lstore (lv' := [(4, .long x2.toInt64), (0, .ref (g.1 2010)), (1, .int x1), (2, .int x2), (3, .int x3)]) hx hb dX4_sign_25 hl (by decide) rfl (fun ls hl => ?_)
        exact wX4_sign_27 hg X hr x2.toInt64 _ h H locs ls hw hS (lv_sub hl [1, 2, 3, 4, 0] rfl)
      · replace h := h.2 hc
        refine lv_iload_n hx hb dX4_sign_17 rfl (lv_at hl 2 rfl) ?_
        refine lv_i2l (v := x2.toInt64) hx hb dX4_sign_18 rfl ?_
        refine lv_lneg hx hb dX4_sign_19 ?_
        refine lv_goto (tgt := 25) hx hb dX4_sign_20 (by decide) ?_
        refine lv_topl (fun b7 eb7 => ?_)
        replace h := h b7 eb7
        refine lv_lstore (lv' := [(4, .long b7), (0, .ref (g.1 2010)), (1, .int x1), (2, .int x2), (3, .int x3)]) hx hb dX4_sign_25 hl (by decide) rfl (fun ls hl => ?_)
        exact wX4_sign_27 hg X hr b7 _ h H locs ls hw hS (lv_sub hl [1, 2, 3, 4, 0] rfl)
    · replace h := h.2 hc
      exact wX4_sign_11 hg X hr _ h H locs ls hw hS (lv_sub hl [0, 1, 2, 3] rfl)
def wpX4_sign (x1 : Int32) (x2 : Int32) (x3 : Int32) (σ : CS) (Q : Int32 → CS → Prop) : Prop := wpX4_sign_0 x1 x2 x3 Q σ
theorem kX4_sign {l : Launch} {D : va_G} {A : Nat → Prop} {g : mG} (hg : inj g) {x1 : Int32} {x2 : Int32} {x3 : Int32} {σ : CS} {Q : Int32 → CS → Prop} (h : wpX4_sign x1 x2 x3 σ Q) : Met l yX4_sign (Cond.code yX4_sign cX4_sign 6 (some .int) :: wsA) rmX4_sign (mPc D (tyG g) A (cT g σ) [.ref (g.1 2010), .int x1, .int x2, .int x3]) (va_Qi Q (fun u t => wd D A (cT g u) t.heap) A) 0 0 A :=
  m_met (by decide +kernel) (Nat.le_of_ble_eq_true rfl) (fun p e s m below meth c X hr H locs ls hw hS hl => wX4_sign_0 hg X hr σ h H locs ls hw hS (lv_sub hl [0, 1, 2, 3] rfl))
theorem fX4_sign : vfit yX4_sign cX4_sign 6 (some .int) 3 := ⟨mw_503, mw_504, mw_2, mw_505, by decide +kernel, by decide +kernel, by decide +kernel⟩
/-! BigPolys.roots(III)I -/
def rmX4_roots : Room := { frames := 7, cells := 0, slots := 0, locals := 180 }
def wpX4_roots_24 (x1 : Int32) (x2 : Int32) (x3 : Int32) (Q : Int32 → CS → Prop) (σ : CS) : Prop :=
  Q (-1 : Int32) σ
set_option maxRecDepth 100000 in
set_option maxHeartbeats 4000000 in
theorem wX4_roots_24 {p : Program} {l : Launch} {e : Env} {s : State} {m : MethodId} {args : Array Value} {below : List Frame} {meth : Method} {c : Code} {D : va_G} {A : Nat → Prop} {g : mG} (hg : inj g) {x1 : Int32} {x2 : Int32} {x3 : Int32} (X : cx p m meth c s args cX4_roots 4 RX4 D (tyG g)) (hr : meth.sig.returnType = (some .int)) {Q : Int32 → CS → Prop} : ∀ (σ : CS), wpX4_roots_24 x1 x2 x3 Q σ → cW p l e rmX4_roots s m args below meth c (MQ below (va_Qi Q (fun u t => wd D A (cT g u) t.heap) A) args s 0 0 A) D A (cT g σ) 24 4 [(0, .ref (g.1 2010)), (1, .int x1), (2, .int x2), (3, .int x3)] := by
  obtain ⟨hx, hb, hml, hown, hts, hK, hlk⟩ := id X
  intro σ h H locs ls hw hS hl
  unfold wpX4_roots_24 at h
  refine lv_iconst (v := (-1 : Int32)) hx hb dX4_roots_24 (by decide) ?_
  exact m_iret X hr hw hS h dX4_roots_25
def wpX4_roots_0 (x1 : Int32) (x2 : Int32) (x3 : Int32) (Q : Int32 → CS → Prop) (σ : CS) : Prop :=
  wpX4_isRegister x1 σ (fun (r1 : Int32) (σ2 : CS) =>
    (r1 = 0 →
      wpX4_roots_24 x1 x2 x3 Q σ2) ∧
    (¬ r1 = 0 →
      vp_in x1 8 ∧ (
      ((cD σ2 x1.toNatClampNeg) < 0 →
        wpX4_roots_24 x1 x2 x3 Q σ2) ∧
      (¬ (cD σ2 x1.toNatClampNeg) < 0 →
        (x2 ≤ x3 →
          vp_in x1 8 ∧ (
          wpX1_prepare x1.toNatClampNeg σ2 (fun (σ6 : CS) =>
            wpX1_changes x2.toInt64 (0 : Int32) σ6 (fun (r7 : Int32) (σ8 : CS) =>
              wpX1_changes x3.toInt64 (0 : Int32) σ8 (fun (r9 : Int32) (σ10 : CS) =>
                Q (r7 - r9) σ10))))) ∧
        (¬ x2 ≤ x3 →
          wpX4_roots_24 x1 x2 x3 Q σ2)))))
set_option maxRecDepth 100000 in
set_option maxHeartbeats 4000000 in
theorem wX4_roots_0 {p : Program} {l : Launch} {e : Env} {s : State} {m : MethodId} {args : Array Value} {below : List Frame} {meth : Method} {c : Code} {D : va_G} {A : Nat → Prop} {g : mG} (hg : inj g) {x1 : Int32} {x2 : Int32} {x3 : Int32} (X : cx p m meth c s args cX4_roots 4 RX4 D (tyG g)) (hr : meth.sig.returnType = (some .int)) {Q : Int32 → CS → Prop} : ∀ (σ : CS), wpX4_roots_0 x1 x2 x3 Q σ → cW p l e rmX4_roots s m args below meth c (MQ below (va_Qi Q (fun u t => wd D A (cT g u) t.heap) A) args s 0 0 A) D A (cT g σ) 0 4 [(0, .ref (g.1 2010)), (1, .int x1), (2, .int x2), (3, .int x3)] := by
  obtain ⟨hx, hb, hml, hown, hts, hK, hlk⟩ := id X
  intro σ h H locs ls hw hS hl
  unfold wpX4_roots_0 at h
  refine lv_iload_n hx hb dX4_roots_0 rfl (lv_at hl 1 rfl) ?_
  refine m_cSi (TT := cT g) (As := [.int x1]) (rest := []) X hl.1 hw hS (kX4_isRegister hg h) mw_93 fX4_isRegister ⟨rfl, rfl, Nat.le_of_ble_eq_true rfl, Nat.le_of_ble_eq_true rfl⟩ rfl rfl (Nat.le_of_ble_eq_true rfl) dX4_roots_1 (fun r1 σ2 H locs h hw hS => ?_)
  refine lv_if_eq (tgt := 24) hx hb dX4_roots_4 (by decide) (fun hc => ?_) (fun hc => ?_)
  · replace h := h.1 hc
    exact wX4_roots_24 hg X hr _ h H locs ls hw hS (lv_sub hl [0, 1, 2, 3] rfl)
  · replace h := h.2 hc
    refine lv_aload_n hx hb dX4_roots_7 rfl (lv_at hl 0 rfl) ?_
    refine m_get (v := .ref (g.1 2007)) X hw tG rfl inA_X4 0 (by decide) mw_13 rfl dX4_roots_8 ?_
    refine lv_iload_n hx hb dX4_roots_11 rfl (lv_at hl 1 rfl) ?_
    obtain ⟨hi3, h⟩ := h
    refine m_aald X hw tR 3 rfl hi3 dX4_roots_12 ?_
    refine m_getN (v := .int (cD σ2 x1.toNatClampNeg)) X hw (tP (okP_r hi3)) rfl inA_X2 1 (by decide) (List.mem_append_left _ (List.mem_map.mpr ⟨_, List.mem_of_getElem? (i := 7) rfl, rfl⟩)) rfl dX4_roots_13 ?_
    refine lv_if_lt (tgt := 24) hx hb dX4_roots_16 (by decide) (fun hc => ?_) (fun hc => ?_)
    · replace h := h.1 hc
      exact wX4_roots_24 hg X hr _ h H locs ls hw hS (lv_sub hl [0, 1, 2, 3] rfl)
    · replace h := h.2 hc
      refine lv_iload_n hx hb dX4_roots_19 rfl (lv_at hl 2 rfl) ?_
      refine lv_iload_n hx hb dX4_roots_20 rfl (lv_at hl 3 rfl) ?_
      refine lv_icmp_le (tgt := 26) hx hb dX4_roots_21 (by decide) (fun hc => ?_) (fun hc => ?_)
      · replace h := h.1 hc
        refine lv_aload_n hx hb dX4_roots_26 rfl (lv_at hl 0 rfl) ?_
        refine m_get (v := .ref (g.1 2006)) X hw tG rfl inA_X4 2 (by decide) mw_19 rfl dX4_roots_27 ?_
        refine lv_aload_n hx hb dX4_roots_30 rfl (lv_at hl 0 rfl) ?_
        refine m_get (v := .ref (g.1 2007)) X hw tG rfl inA_X4 0 (by decide) mw_13 rfl dX4_roots_31 ?_
        refine lv_iload_n hx hb dX4_roots_34 rfl (lv_at hl 1 rfl) ?_
        obtain ⟨hi4, h⟩ := h
        refine m_aald X hw tR 3 rfl hi4 dX4_roots_35 ?_
        refine m_cVv (TT := cT g) (As := [.ref (g.1 (4 * x1.toNatClampNeg + 2))]) (rest := []) X hl.1 hw hS (kX1_prepare hg (okP_r hi4) h) mw_526 fX1_prepare tC rfl rfl ⟨rfl, rfl, Nat.le_of_ble_eq_true rfl, Nat.le_of_ble_eq_true rfl⟩ rfl rfl (Nat.le_of_ble_eq_true rfl) dX4_roots_36 (fun σ6 H locs h hw hS => ?_)
        refine lv_aload_n hx hb dX4_roots_39 rfl (lv_at hl 0 rfl) ?_
        refine m_get (v := .ref (g.1 2006)) X hw tG rfl inA_X4 2 (by decide) mw_19 rfl dX4_roots_40 ?_
        refine lv_iload_n hx hb dX4_roots_43 rfl (lv_at hl 2 rfl) ?_
        refine lv_i2l (v := x2.toInt64) hx hb dX4_roots_44 rfl ?_
        refine lv_iconst (v := (0 : Int32)) hx hb dX4_roots_45 (by decide) ?_
        refine m_cVi (TT := cT g) (As := [.long x2.toInt64, .int (0 : Int32)]) (rest := []) X hl.1 hw hS (kX1_changes hg h) mw_530 fX1_changes tC rfl rfl ⟨rfl, rfl, Nat.le_of_ble_eq_true rfl, Nat.le_of_ble_eq_true rfl⟩ rfl rfl (Nat.le_of_ble_eq_true rfl) dX4_roots_46 (fun r7 σ8 H locs h hw hS => ?_)
        refine lv_aload_n hx hb dX4_roots_49 rfl (lv_at hl 0 rfl) ?_
        refine m_get (v := .ref (g.1 2006)) X hw tG rfl inA_X4 2 (by decide) mw_19 rfl dX4_roots_50 ?_
        refine lv_iload_n hx hb dX4_roots_53 rfl (lv_at hl 3 rfl) ?_
        refine lv_i2l (v := x3.toInt64) hx hb dX4_roots_54 rfl ?_
        refine lv_iconst (v := (0 : Int32)) hx hb dX4_roots_55 (by decide) ?_
        refine m_cVi (TT := cT g) (As := [.long x3.toInt64, .int (0 : Int32)]) (rest := [.int r7]) X hl.1 hw hS (kX1_changes hg h) mw_530 fX1_changes tC rfl rfl ⟨rfl, rfl, Nat.le_of_ble_eq_true rfl, Nat.le_of_ble_eq_true rfl⟩ rfl rfl (Nat.le_of_ble_eq_true rfl) dX4_roots_56 (fun r9 σ10 H locs h hw hS => ?_)
        refine lv_isub hx hb dX4_roots_59 ?_
        exact m_iret X hr hw hS h dX4_roots_60
      · replace h := h.2 hc
        exact wX4_roots_24 hg X hr _ h H locs ls hw hS (lv_sub hl [0, 1, 2, 3] rfl)
def wpX4_roots (x1 : Int32) (x2 : Int32) (x3 : Int32) (σ : CS) (Q : Int32 → CS → Prop) : Prop := wpX4_roots_0 x1 x2 x3 Q σ
theorem kX4_roots {l : Launch} {D : va_G} {A : Nat → Prop} {g : mG} (hg : inj g) {x1 : Int32} {x2 : Int32} {x3 : Int32} {σ : CS} {Q : Int32 → CS → Prop} (h : wpX4_roots x1 x2 x3 σ Q) : Met l yX4_roots (Cond.code yX4_roots cX4_roots 4 (some .int) :: wsA) rmX4_roots (mPc D (tyG g) A (cT g σ) [.ref (g.1 2010), .int x1, .int x2, .int x3]) (va_Qi Q (fun u t => wd D A (cT g u) t.heap) A) 0 0 A :=
  m_met (by decide +kernel) (Nat.le_of_ble_eq_true rfl) (fun p e s m below meth c X hr H locs ls hw hS hl => wX4_roots_0 hg X hr σ h H locs ls hw hS (lv_sub hl [0, 1, 2, 3] rfl))
theorem fX4_roots : vfit yX4_roots cX4_roots 4 (some .int) 3 := ⟨mw_523, mw_524, mw_2, mw_525, by decide +kernel, by decide +kernel, by decide +kernel⟩
/-! BigPolys.allRoots(I)I -/
def rmX4_allRoots : Room := { frames := 7, cells := 0, slots := 0, locals := 180 }
def wpX4_allRoots_19 (x1 : Int32) (Q : Int32 → CS → Prop) (σ : CS) : Prop :=
  Q (-1 : Int32) σ
set_option maxRecDepth 100000 in
set_option maxHeartbeats 4000000 in
theorem wX4_allRoots_19 {p : Program} {l : Launch} {e : Env} {s : State} {m : MethodId} {args : Array Value} {below : List Frame} {meth : Method} {c : Code} {D : va_G} {A : Nat → Prop} {g : mG} (hg : inj g) {x1 : Int32} (X : cx p m meth c s args cX4_allRoots 2 RX4 D (tyG g)) (hr : meth.sig.returnType = (some .int)) {Q : Int32 → CS → Prop} : ∀ (σ : CS), wpX4_allRoots_19 x1 Q σ → cW p l e rmX4_allRoots s m args below meth c (MQ below (va_Qi Q (fun u t => wd D A (cT g u) t.heap) A) args s 0 0 A) D A (cT g σ) 19 2 [(0, .ref (g.1 2010)), (1, .int x1)] := by
  obtain ⟨hx, hb, hml, hown, hts, hK, hlk⟩ := id X
  intro σ h H locs ls hw hS hl
  unfold wpX4_allRoots_19 at h
  refine lv_iconst (v := (-1 : Int32)) hx hb dX4_allRoots_19 (by decide) ?_
  exact m_iret X hr hw hS h dX4_allRoots_20
def wpX4_allRoots_0 (x1 : Int32) (Q : Int32 → CS → Prop) (σ : CS) : Prop :=
  wpX4_isRegister x1 σ (fun (r1 : Int32) (σ2 : CS) =>
    (r1 = 0 →
      wpX4_allRoots_19 x1 Q σ2) ∧
    (¬ r1 = 0 →
      vp_in x1 8 ∧ (
      (0 ≤ (cD σ2 x1.toNatClampNeg) →
        vp_in x1 8 ∧ (
        wpX1_prepare x1.toNatClampNeg σ2 (fun (σ6 : CS) =>
          wpX1_changes (-1 : Int64) (1 : Int32) σ6 (fun (r7 : Int32) (σ8 : CS) =>
            wpX1_changes (1 : Int64) (1 : Int32) σ8 (fun (r9 : Int32) (σ10 : CS) =>
              Q (r7 - r9) σ10))))) ∧
      (¬ 0 ≤ (cD σ2 x1.toNatClampNeg) →
        wpX4_allRoots_19 x1 Q σ2))))
set_option maxRecDepth 100000 in
set_option maxHeartbeats 4000000 in
theorem wX4_allRoots_0 {p : Program} {l : Launch} {e : Env} {s : State} {m : MethodId} {args : Array Value} {below : List Frame} {meth : Method} {c : Code} {D : va_G} {A : Nat → Prop} {g : mG} (hg : inj g) {x1 : Int32} (X : cx p m meth c s args cX4_allRoots 2 RX4 D (tyG g)) (hr : meth.sig.returnType = (some .int)) {Q : Int32 → CS → Prop} : ∀ (σ : CS), wpX4_allRoots_0 x1 Q σ → cW p l e rmX4_allRoots s m args below meth c (MQ below (va_Qi Q (fun u t => wd D A (cT g u) t.heap) A) args s 0 0 A) D A (cT g σ) 0 2 [(0, .ref (g.1 2010)), (1, .int x1)] := by
  obtain ⟨hx, hb, hml, hown, hts, hK, hlk⟩ := id X
  intro σ h H locs ls hw hS hl
  unfold wpX4_allRoots_0 at h
  refine lv_iload_n hx hb dX4_allRoots_0 rfl (lv_at hl 1 rfl) ?_
  refine m_cSi (TT := cT g) (As := [.int x1]) (rest := []) X hl.1 hw hS (kX4_isRegister hg h) mw_93 fX4_isRegister ⟨rfl, rfl, Nat.le_of_ble_eq_true rfl, Nat.le_of_ble_eq_true rfl⟩ rfl rfl (Nat.le_of_ble_eq_true rfl) dX4_allRoots_1 (fun r1 σ2 H locs h hw hS => ?_)
  refine lv_if_eq (tgt := 19) hx hb dX4_allRoots_4 (by decide) (fun hc => ?_) (fun hc => ?_)
  · replace h := h.1 hc
    exact wX4_allRoots_19 hg X hr _ h H locs ls hw hS (lv_sub hl [0, 1] rfl)
  · replace h := h.2 hc
    refine lv_aload_n hx hb dX4_allRoots_7 rfl (lv_at hl 0 rfl) ?_
    refine m_get (v := .ref (g.1 2007)) X hw tG rfl inA_X4 0 (by decide) mw_13 rfl dX4_allRoots_8 ?_
    refine lv_iload_n hx hb dX4_allRoots_11 rfl (lv_at hl 1 rfl) ?_
    obtain ⟨hi3, h⟩ := h
    refine m_aald X hw tR 3 rfl hi3 dX4_allRoots_12 ?_
    refine m_getN (v := .int (cD σ2 x1.toNatClampNeg)) X hw (tP (okP_r hi3)) rfl inA_X2 1 (by decide) (List.mem_append_left _ (List.mem_map.mpr ⟨_, List.mem_of_getElem? (i := 7) rfl, rfl⟩)) rfl dX4_allRoots_13 ?_
    refine lv_if_ge (tgt := 21) hx hb dX4_allRoots_16 (by decide) (fun hc => ?_) (fun hc => ?_)
    · replace h := h.1 hc
      refine lv_aload_n hx hb dX4_allRoots_21 rfl (lv_at hl 0 rfl) ?_
      refine m_get (v := .ref (g.1 2006)) X hw tG rfl inA_X4 2 (by decide) mw_19 rfl dX4_allRoots_22 ?_
      refine lv_aload_n hx hb dX4_allRoots_25 rfl (lv_at hl 0 rfl) ?_
      refine m_get (v := .ref (g.1 2007)) X hw tG rfl inA_X4 0 (by decide) mw_13 rfl dX4_allRoots_26 ?_
      refine lv_iload_n hx hb dX4_allRoots_29 rfl (lv_at hl 1 rfl) ?_
      obtain ⟨hi4, h⟩ := h
      refine m_aald X hw tR 3 rfl hi4 dX4_allRoots_30 ?_
      refine m_cVv (TT := cT g) (As := [.ref (g.1 (4 * x1.toNatClampNeg + 2))]) (rest := []) X hl.1 hw hS (kX1_prepare hg (okP_r hi4) h) mw_526 fX1_prepare tC rfl rfl ⟨rfl, rfl, Nat.le_of_ble_eq_true rfl, Nat.le_of_ble_eq_true rfl⟩ rfl rfl (Nat.le_of_ble_eq_true rfl) dX4_allRoots_31 (fun σ6 H locs h hw hS => ?_)
      refine lv_aload_n hx hb dX4_allRoots_34 rfl (lv_at hl 0 rfl) ?_
      refine m_get (v := .ref (g.1 2006)) X hw tG rfl inA_X4 2 (by decide) mw_19 rfl dX4_allRoots_35 ?_
      refine lv_ldc2 (v := (-1 : Int64)) hx hb hown (hts _ mw_557) dX4_allRoots_38 ?_
      refine lv_iconst (v := (1 : Int32)) hx hb dX4_allRoots_41 (by decide) ?_
      refine m_cVi (TT := cT g) (As := [.long (-1 : Int64), .int (1 : Int32)]) (rest := []) X hl.1 hw hS (kX1_changes hg h) mw_530 fX1_changes tC rfl rfl ⟨rfl, rfl, Nat.le_of_ble_eq_true rfl, Nat.le_of_ble_eq_true rfl⟩ rfl rfl (Nat.le_of_ble_eq_true rfl) dX4_allRoots_42 (fun r7 σ8 H locs h hw hS => ?_)
      refine lv_aload_n hx hb dX4_allRoots_45 rfl (lv_at hl 0 rfl) ?_
      refine m_get (v := .ref (g.1 2006)) X hw tG rfl inA_X4 2 (by decide) mw_19 rfl dX4_allRoots_46 ?_
      refine lv_lconst (v := (1 : Int64)) hx hb dX4_allRoots_49 (by decide) ?_
      refine lv_iconst (v := (1 : Int32)) hx hb dX4_allRoots_50 (by decide) ?_
      refine m_cVi (TT := cT g) (As := [.long (1 : Int64), .int (1 : Int32)]) (rest := [.int r7]) X hl.1 hw hS (kX1_changes hg h) mw_530 fX1_changes tC rfl rfl ⟨rfl, rfl, Nat.le_of_ble_eq_true rfl, Nat.le_of_ble_eq_true rfl⟩ rfl rfl (Nat.le_of_ble_eq_true rfl) dX4_allRoots_51 (fun r9 σ10 H locs h hw hS => ?_)
      refine lv_isub hx hb dX4_allRoots_54 ?_
      exact m_iret X hr hw hS h dX4_allRoots_55
    · replace h := h.2 hc
      exact wX4_allRoots_19 hg X hr _ h H locs ls hw hS (lv_sub hl [0, 1] rfl)
def wpX4_allRoots (x1 : Int32) (σ : CS) (Q : Int32 → CS → Prop) : Prop := wpX4_allRoots_0 x1 Q σ
theorem kX4_allRoots {l : Launch} {D : va_G} {A : Nat → Prop} {g : mG} (hg : inj g) {x1 : Int32} {σ : CS} {Q : Int32 → CS → Prop} (h : wpX4_allRoots x1 σ Q) : Met l yX4_allRoots (Cond.code yX4_allRoots cX4_allRoots 2 (some .int) :: wsA) rmX4_allRoots (mPc D (tyG g) A (cT g σ) [.ref (g.1 2010), .int x1]) (va_Qi Q (fun u t => wd D A (cT g u) t.heap) A) 0 0 A :=
  m_met (by decide +kernel) (Nat.le_of_ble_eq_true rfl) (fun p e s m below meth c X hr H locs ls hw hS hl => wX4_allRoots_0 hg X hr σ h H locs ls hw hS (lv_sub hl [0, 1] rfl))
theorem fX4_allRoots : vfit yX4_allRoots cX4_allRoots 2 (some .int) 1 := ⟨mw_554, mw_555, mw_2, mw_556, by decide +kernel, by decide +kernel, by decide +kernel⟩
/-! BigPolys.place(II)J -/
def rmX4_place : Room := { frames := 7, cells := 0, slots := 0, locals := 183 }
def wpX4_place_23 (x1 : Int32) (x2 : Int32) (Q : Int64 → CS → Prop) (σ : CS) : Prop :=
  Q (-9223372036854775808 : Int64) σ
set_option maxRecDepth 100000 in
set_option maxHeartbeats 4000000 in
theorem wX4_place_23 {p : Program} {l : Launch} {e : Env} {s : State} {m : MethodId} {args : Array Value} {below : List Frame} {meth : Method} {c : Code} {D : va_G} {A : Nat → Prop} {g : mG} (hg : inj g) {x1 : Int32} {x2 : Int32} (X : cx p m meth c s args cX4_place 3 RX4 D (tyG g)) (hr : meth.sig.returnType = (some .long)) {Q : Int64 → CS → Prop} : ∀ (σ : CS), wpX4_place_23 x1 x2 Q σ → cW p l e rmX4_place s m args below meth c (MQ below (va_Ql Q (fun u t => wd D A (cT g u) t.heap) A) args s 0 0 A) D A (cT g σ) 23 3 [(0, .ref (g.1 2010)), (1, .int x1), (2, .int x2)] := by
  obtain ⟨hx, hb, hml, hown, hts, hK, hlk⟩ := id X
  intro σ h H locs ls hw hS hl
  unfold wpX4_place_23 at h
  refine lv_ldc2 (v := (-9223372036854775808 : Int64)) hx hb hown (hts _ mw_570) dX4_place_23 ?_
  exact m_lret X hr hw hS h dX4_place_26
def wpX4_place_0 (x1 : Int32) (x2 : Int32) (Q : Int64 → CS → Prop) (σ : CS) : Prop :=
  wpX4_isRegister x1 σ (fun (r1 : Int32) (σ2 : CS) =>
    (r1 = 0 →
      wpX4_place_23 x1 x2 Q σ2) ∧
    (¬ r1 = 0 →
      vp_in x1 8 ∧ (
      ((cD σ2 x1.toNatClampNeg) < 0 →
        wpX4_place_23 x1 x2 Q σ2) ∧
      (¬ (cD σ2 x1.toNatClampNeg) < 0 →
        (0 ≤ x2 →
          vp_in x1 8 ∧ (
          wpX1_prepare x1.toNatClampNeg σ2 (fun (σ6 : CS) =>
            wpX1_floorOfRoot x2 σ6 (fun (r7 : Int64) (σ8 : CS) =>
              Q r7 σ8)))) ∧
        (¬ 0 ≤ x2 →
          wpX4_place_23 x1 x2 Q σ2)))))
set_option maxRecDepth 100000 in
set_option maxHeartbeats 4000000 in
theorem wX4_place_0 {p : Program} {l : Launch} {e : Env} {s : State} {m : MethodId} {args : Array Value} {below : List Frame} {meth : Method} {c : Code} {D : va_G} {A : Nat → Prop} {g : mG} (hg : inj g) {x1 : Int32} {x2 : Int32} (X : cx p m meth c s args cX4_place 3 RX4 D (tyG g)) (hr : meth.sig.returnType = (some .long)) {Q : Int64 → CS → Prop} : ∀ (σ : CS), wpX4_place_0 x1 x2 Q σ → cW p l e rmX4_place s m args below meth c (MQ below (va_Ql Q (fun u t => wd D A (cT g u) t.heap) A) args s 0 0 A) D A (cT g σ) 0 3 [(0, .ref (g.1 2010)), (1, .int x1), (2, .int x2)] := by
  obtain ⟨hx, hb, hml, hown, hts, hK, hlk⟩ := id X
  intro σ h H locs ls hw hS hl
  unfold wpX4_place_0 at h
  refine lv_iload_n hx hb dX4_place_0 rfl (lv_at hl 1 rfl) ?_
  refine m_cSi (TT := cT g) (As := [.int x1]) (rest := []) X hl.1 hw hS (kX4_isRegister hg h) mw_93 fX4_isRegister ⟨rfl, rfl, Nat.le_of_ble_eq_true rfl, Nat.le_of_ble_eq_true rfl⟩ rfl rfl (Nat.le_of_ble_eq_true rfl) dX4_place_1 (fun r1 σ2 H locs h hw hS => ?_)
  refine lv_if_eq (tgt := 23) hx hb dX4_place_4 (by decide) (fun hc => ?_) (fun hc => ?_)
  · replace h := h.1 hc
    exact wX4_place_23 hg X hr _ h H locs ls hw hS (lv_sub hl [0, 1, 2] rfl)
  · replace h := h.2 hc
    refine lv_aload_n hx hb dX4_place_7 rfl (lv_at hl 0 rfl) ?_
    refine m_get (v := .ref (g.1 2007)) X hw tG rfl inA_X4 0 (by decide) mw_13 rfl dX4_place_8 ?_
    refine lv_iload_n hx hb dX4_place_11 rfl (lv_at hl 1 rfl) ?_
    obtain ⟨hi3, h⟩ := h
    refine m_aald X hw tR 3 rfl hi3 dX4_place_12 ?_
    refine m_getN (v := .int (cD σ2 x1.toNatClampNeg)) X hw (tP (okP_r hi3)) rfl inA_X2 1 (by decide) (List.mem_append_left _ (List.mem_map.mpr ⟨_, List.mem_of_getElem? (i := 7) rfl, rfl⟩)) rfl dX4_place_13 ?_
    refine lv_if_lt (tgt := 23) hx hb dX4_place_16 (by decide) (fun hc => ?_) (fun hc => ?_)
    · replace h := h.1 hc
      exact wX4_place_23 hg X hr _ h H locs ls hw hS (lv_sub hl [0, 1, 2] rfl)
    · replace h := h.2 hc
      refine lv_iload_n hx hb dX4_place_19 rfl (lv_at hl 2 rfl) ?_
      refine lv_if_ge (tgt := 27) hx hb dX4_place_20 (by decide) (fun hc => ?_) (fun hc => ?_)
      · replace h := h.1 hc
        refine lv_aload_n hx hb dX4_place_27 rfl (lv_at hl 0 rfl) ?_
        refine m_get (v := .ref (g.1 2006)) X hw tG rfl inA_X4 2 (by decide) mw_19 rfl dX4_place_28 ?_
        refine lv_aload_n hx hb dX4_place_31 rfl (lv_at hl 0 rfl) ?_
        refine m_get (v := .ref (g.1 2007)) X hw tG rfl inA_X4 0 (by decide) mw_13 rfl dX4_place_32 ?_
        refine lv_iload_n hx hb dX4_place_35 rfl (lv_at hl 1 rfl) ?_
        obtain ⟨hi4, h⟩ := h
        refine m_aald X hw tR 3 rfl hi4 dX4_place_36 ?_
        refine m_cVv (TT := cT g) (As := [.ref (g.1 (4 * x1.toNatClampNeg + 2))]) (rest := []) X hl.1 hw hS (kX1_prepare hg (okP_r hi4) h) mw_526 fX1_prepare tC rfl rfl ⟨rfl, rfl, Nat.le_of_ble_eq_true rfl, Nat.le_of_ble_eq_true rfl⟩ rfl rfl (Nat.le_of_ble_eq_true rfl) dX4_place_37 (fun σ6 H locs h hw hS => ?_)
        refine lv_aload_n hx hb dX4_place_40 rfl (lv_at hl 0 rfl) ?_
        refine m_get (v := .ref (g.1 2006)) X hw tG rfl inA_X4 2 (by decide) mw_19 rfl dX4_place_41 ?_
        refine lv_iload_n hx hb dX4_place_44 rfl (lv_at hl 2 rfl) ?_
        refine m_cVl (TT := cT g) (As := [.int x2]) (rest := []) X hl.1 hw hS (kX1_floorOfRoot hg h) mw_571 fX1_floorOfRoot tC rfl rfl ⟨rfl, rfl, Nat.le_of_ble_eq_true rfl, Nat.le_of_ble_eq_true rfl⟩ rfl rfl (Nat.le_of_ble_eq_true rfl) dX4_place_45 (fun r7 σ8 H locs h hw hS => ?_)
        exact m_lret X hr hw hS h dX4_place_48
      · replace h := h.2 hc
        exact wX4_place_23 hg X hr _ h H locs ls hw hS (lv_sub hl [0, 1, 2] rfl)
def wpX4_place (x1 : Int32) (x2 : Int32) (σ : CS) (Q : Int64 → CS → Prop) : Prop := wpX4_place_0 x1 x2 Q σ
theorem kX4_place {l : Launch} {D : va_G} {A : Nat → Prop} {g : mG} (hg : inj g) {x1 : Int32} {x2 : Int32} {σ : CS} {Q : Int64 → CS → Prop} (h : wpX4_place x1 x2 σ Q) : Met l yX4_place (Cond.code yX4_place cX4_place 3 (some .long) :: wsA) rmX4_place (mPc D (tyG g) A (cT g σ) [.ref (g.1 2010), .int x1, .int x2]) (va_Ql Q (fun u t => wd D A (cT g u) t.heap) A) 0 0 A :=
  m_met (by decide +kernel) (Nat.le_of_ble_eq_true rfl) (fun p e s m below meth c X hr H locs ls hw hS hl => wX4_place_0 hg X hr σ h H locs ls hw hS (lv_sub hl [0, 1, 2] rfl))
theorem fX4_place : vfit yX4_place cX4_place 3 (some .long) 2 := ⟨mw_567, mw_568, mw_2, mw_569, by decide +kernel, by decide +kernel, by decide +kernel⟩
/-! BigPolys.degree(I)I -/
def rmX4_degree : Room := { frames := 1, cells := 0, slots := 0, locals := 20 }
def wpX4_degree_0 (x1 : Int32) (Q : Int32 → CS → Prop) (σ : CS) : Prop :=
  wpX4_isRegister x1 σ (fun (r1 : Int32) (σ2 : CS) =>
    (r1 = 0 →
      Q (-2 : Int32) σ2) ∧
    (¬ r1 = 0 →
      vp_in x1 8 ∧ (
      Q (cD σ2 x1.toNatClampNeg) σ2)))
set_option maxRecDepth 100000 in
set_option maxHeartbeats 4000000 in
theorem wX4_degree_0 {p : Program} {l : Launch} {e : Env} {s : State} {m : MethodId} {args : Array Value} {below : List Frame} {meth : Method} {c : Code} {D : va_G} {A : Nat → Prop} {g : mG} (hg : inj g) {x1 : Int32} (X : cx p m meth c s args cX4_degree 2 RX4 D (tyG g)) (hr : meth.sig.returnType = (some .int)) {Q : Int32 → CS → Prop} : ∀ (σ : CS), wpX4_degree_0 x1 Q σ → cW p l e rmX4_degree s m args below meth c (MQ below (va_Qi Q (fun u t => wd D A (cT g u) t.heap) A) args s 0 0 A) D A (cT g σ) 0 2 [(0, .ref (g.1 2010)), (1, .int x1)] := by
  obtain ⟨hx, hb, hml, hown, hts, hK, hlk⟩ := id X
  intro σ h H locs ls hw hS hl
  unfold wpX4_degree_0 at h
  refine lv_iload_n hx hb dX4_degree_0 rfl (lv_at hl 1 rfl) ?_
  refine m_cSi (TT := cT g) (As := [.int x1]) (rest := []) X hl.1 hw hS (kX4_isRegister hg h) mw_93 fX4_isRegister ⟨rfl, rfl, Nat.le_of_ble_eq_true rfl, Nat.le_of_ble_eq_true rfl⟩ rfl rfl (Nat.le_of_ble_eq_true rfl) dX4_degree_1 (fun r1 σ2 H locs h hw hS => ?_)
  refine lv_if_eq (tgt := 19) hx hb dX4_degree_4 (by decide) (fun hc => ?_) (fun hc => ?_)
  · replace h := h.1 hc
    refine lv_bipush (v := (-2 : Int32)) hx hb dX4_degree_19 (by decide) ?_
    exact m_iret X hr hw hS h dX4_degree_21
  · replace h := h.2 hc
    refine lv_aload_n hx hb dX4_degree_7 rfl (lv_at hl 0 rfl) ?_
    refine m_get (v := .ref (g.1 2007)) X hw tG rfl inA_X4 0 (by decide) mw_13 rfl dX4_degree_8 ?_
    refine lv_iload_n hx hb dX4_degree_11 rfl (lv_at hl 1 rfl) ?_
    obtain ⟨hi3, h⟩ := h
    refine m_aald X hw tR 3 rfl hi3 dX4_degree_12 ?_
    refine m_getN (v := .int (cD σ2 x1.toNatClampNeg)) X hw (tP (okP_r hi3)) rfl inA_X2 1 (by decide) (List.mem_append_left _ (List.mem_map.mpr ⟨_, List.mem_of_getElem? (i := 7) rfl, rfl⟩)) rfl dX4_degree_13 ?_
    refine lv_goto (tgt := 21) hx hb dX4_degree_16 (by decide) ?_
    exact m_iret X hr hw hS h dX4_degree_21
def wpX4_degree (x1 : Int32) (σ : CS) (Q : Int32 → CS → Prop) : Prop := wpX4_degree_0 x1 Q σ
theorem kX4_degree {l : Launch} {D : va_G} {A : Nat → Prop} {g : mG} (hg : inj g) {x1 : Int32} {σ : CS} {Q : Int32 → CS → Prop} (h : wpX4_degree x1 σ Q) : Met l yX4_degree (Cond.code yX4_degree cX4_degree 2 (some .int) :: wsA) rmX4_degree (mPc D (tyG g) A (cT g σ) [.ref (g.1 2010), .int x1]) (va_Qi Q (fun u t => wd D A (cT g u) t.heap) A) 0 0 A :=
  m_met (by decide +kernel) (Nat.le_of_ble_eq_true rfl) (fun p e s m below meth c X hr H locs ls hw hS hl => wX4_degree_0 hg X hr σ h H locs ls hw hS (lv_sub hl [0, 1] rfl))
theorem fX4_degree : vfit yX4_degree cX4_degree 2 (some .int) 1 := ⟨mw_597, mw_598, mw_2, mw_599, by decide +kernel, by decide +kernel, by decide +kernel⟩
/-! BigPolys.signOf(II)I -/
def rmX4_signOf : Room := { frames := 2, cells := 0, slots := 0, locals := 41 }
def wpX4_signOf_0 (x1 : Int32) (x2 : Int32) (Q : Int32 → CS → Prop) (σ : CS) : Prop :=
  wpX4_isCoefficient x1 x2 σ (fun (r1 : Int32) (σ2 : CS) =>
    (r1 = 0 →
      Q (2 : Int32) σ2) ∧
    (¬ r1 = 0 →
      vp_in x1 8 ∧ (
      vp_in x2 (tlen x1.toNatClampNeg) ∧ (
      Q (cG σ2 (16 * x1.toNatClampNeg + x2.toNatClampNeg)) σ2))))
set_option maxRecDepth 100000 in
set_option maxHeartbeats 4000000 in
theorem wX4_signOf_0 {p : Program} {l : Launch} {e : Env} {s : State} {m : MethodId} {args : Array Value} {below : List Frame} {meth : Method} {c : Code} {D : va_G} {A : Nat → Prop} {g : mG} (hg : inj g) {x1 : Int32} {x2 : Int32} (X : cx p m meth c s args cX4_signOf 3 RX4 D (tyG g)) (hr : meth.sig.returnType = (some .int)) {Q : Int32 → CS → Prop} : ∀ (σ : CS), wpX4_signOf_0 x1 x2 Q σ → cW p l e rmX4_signOf s m args below meth c (MQ below (va_Qi Q (fun u t => wd D A (cT g u) t.heap) A) args s 0 0 A) D A (cT g σ) 0 3 [(0, .ref (g.1 2010)), (1, .int x1), (2, .int x2)] := by
  obtain ⟨hx, hb, hml, hown, hts, hK, hlk⟩ := id X
  intro σ h H locs ls hw hS hl
  unfold wpX4_signOf_0 at h
  refine lv_iload_n hx hb dX4_signOf_0 rfl (lv_at hl 1 rfl) ?_
  refine lv_iload_n hx hb dX4_signOf_1 rfl (lv_at hl 2 rfl) ?_
  refine m_cSi (TT := cT g) (As := [.int x1, .int x2]) (rest := []) X hl.1 hw hS (kX4_isCoefficient hg h) mw_90 fX4_isCoefficient ⟨rfl, rfl, Nat.le_of_ble_eq_true rfl, Nat.le_of_ble_eq_true rfl⟩ rfl rfl (Nat.le_of_ble_eq_true rfl) dX4_signOf_2 (fun r1 σ2 H locs h hw hS => ?_)
  refine lv_if_eq (tgt := 25) hx hb dX4_signOf_5 (by decide) (fun hc => ?_) (fun hc => ?_)
  · replace h := h.1 hc
    refine lv_iconst (v := (2 : Int32)) hx hb dX4_signOf_25 (by decide) ?_
    exact m_iret X hr hw hS h dX4_signOf_26
  · replace h := h.2 hc
    refine lv_aload_n hx hb dX4_signOf_8 rfl (lv_at hl 0 rfl) ?_
    refine m_get (v := .ref (g.1 2007)) X hw tG rfl inA_X4 0 (by decide) mw_13 rfl dX4_signOf_9 ?_
    refine lv_iload_n hx hb dX4_signOf_12 rfl (lv_at hl 1 rfl) ?_
    obtain ⟨hi3, h⟩ := h
    refine m_aald X hw tR 3 rfl hi3 dX4_signOf_13 ?_
    refine m_getN (v := .ref (g.1 (4 * x1.toNatClampNeg + 3))) X hw (tP (okP_r hi3)) rfl inA_X2 0 (by decide) (List.mem_append_left _ (List.mem_map.mpr ⟨_, List.mem_of_getElem? (i := 5) rfl, rfl⟩)) rfl dX4_signOf_14 ?_
    refine lv_iload_n hx hb dX4_signOf_17 rfl (lv_at hl 2 rfl) ?_
    obtain ⟨hi4, h⟩ := h
    refine m_aald X hw (tT (okP_r hi3)) 2 rfl hi4 dX4_signOf_18 ?_
    refine m_getN (v := .int (cG σ2 (16 * x1.toNatClampNeg + x2.toNatClampNeg))) X hw (tW (okW_t (okP_r hi3) hi4)) rfl inA_X3 2 (by decide) (List.mem_append_left _ (List.mem_map.mpr ⟨_, List.mem_of_getElem? (i := 1) rfl, rfl⟩)) rfl dX4_signOf_19 ?_
    refine lv_goto (tgt := 26) hx hb dX4_signOf_22 (by decide) ?_
    exact m_iret X hr hw hS h dX4_signOf_26
def wpX4_signOf (x1 : Int32) (x2 : Int32) (σ : CS) (Q : Int32 → CS → Prop) : Prop := wpX4_signOf_0 x1 x2 Q σ
theorem kX4_signOf {l : Launch} {D : va_G} {A : Nat → Prop} {g : mG} (hg : inj g) {x1 : Int32} {x2 : Int32} {σ : CS} {Q : Int32 → CS → Prop} (h : wpX4_signOf x1 x2 σ Q) : Met l yX4_signOf (Cond.code yX4_signOf cX4_signOf 3 (some .int) :: wsA) rmX4_signOf (mPc D (tyG g) A (cT g σ) [.ref (g.1 2010), .int x1, .int x2]) (va_Qi Q (fun u t => wd D A (cT g u) t.heap) A) 0 0 A :=
  m_met (by decide +kernel) (Nat.le_of_ble_eq_true rfl) (fun p e s m below meth c X hr H locs ls hw hS hl => wX4_signOf_0 hg X hr σ h H locs ls hw hS (lv_sub hl [0, 1, 2] rfl))
theorem fX4_signOf : vfit yX4_signOf cX4_signOf 3 (some .int) 2 := ⟨mw_605, mw_606, mw_2, mw_607, by decide +kernel, by decide +kernel, by decide +kernel⟩
/-! BigPolys.words(II)I -/
def rmX4_words : Room := { frames := 2, cells := 0, slots := 0, locals := 41 }
def wpX4_words_0 (x1 : Int32) (x2 : Int32) (Q : Int32 → CS → Prop) (σ : CS) : Prop :=
  wpX4_isCoefficient x1 x2 σ (fun (r1 : Int32) (σ2 : CS) =>
    (r1 = 0 →
      Q (-1 : Int32) σ2) ∧
    (¬ r1 = 0 →
      vp_in x1 8 ∧ (
      vp_in x2 (tlen x1.toNatClampNeg) ∧ (
      Q (cS σ2 (16 * x1.toNatClampNeg + x2.toNatClampNeg)) σ2))))
set_option maxRecDepth 100000 in
set_option maxHeartbeats 4000000 in
theorem wX4_words_0 {p : Program} {l : Launch} {e : Env} {s : State} {m : MethodId} {args : Array Value} {below : List Frame} {meth : Method} {c : Code} {D : va_G} {A : Nat → Prop} {g : mG} (hg : inj g) {x1 : Int32} {x2 : Int32} (X : cx p m meth c s args cX4_words 3 RX4 D (tyG g)) (hr : meth.sig.returnType = (some .int)) {Q : Int32 → CS → Prop} : ∀ (σ : CS), wpX4_words_0 x1 x2 Q σ → cW p l e rmX4_words s m args below meth c (MQ below (va_Qi Q (fun u t => wd D A (cT g u) t.heap) A) args s 0 0 A) D A (cT g σ) 0 3 [(0, .ref (g.1 2010)), (1, .int x1), (2, .int x2)] := by
  obtain ⟨hx, hb, hml, hown, hts, hK, hlk⟩ := id X
  intro σ h H locs ls hw hS hl
  unfold wpX4_words_0 at h
  refine lv_iload_n hx hb dX4_words_0 rfl (lv_at hl 1 rfl) ?_
  refine lv_iload_n hx hb dX4_words_1 rfl (lv_at hl 2 rfl) ?_
  refine m_cSi (TT := cT g) (As := [.int x1, .int x2]) (rest := []) X hl.1 hw hS (kX4_isCoefficient hg h) mw_90 fX4_isCoefficient ⟨rfl, rfl, Nat.le_of_ble_eq_true rfl, Nat.le_of_ble_eq_true rfl⟩ rfl rfl (Nat.le_of_ble_eq_true rfl) dX4_words_2 (fun r1 σ2 H locs h hw hS => ?_)
  refine lv_if_eq (tgt := 25) hx hb dX4_words_5 (by decide) (fun hc => ?_) (fun hc => ?_)
  · replace h := h.1 hc
    refine lv_iconst (v := (-1 : Int32)) hx hb dX4_words_25 (by decide) ?_
    exact m_iret X hr hw hS h dX4_words_26
  · replace h := h.2 hc
    refine lv_aload_n hx hb dX4_words_8 rfl (lv_at hl 0 rfl) ?_
    refine m_get (v := .ref (g.1 2007)) X hw tG rfl inA_X4 0 (by decide) mw_13 rfl dX4_words_9 ?_
    refine lv_iload_n hx hb dX4_words_12 rfl (lv_at hl 1 rfl) ?_
    obtain ⟨hi3, h⟩ := h
    refine m_aald X hw tR 3 rfl hi3 dX4_words_13 ?_
    refine m_getN (v := .ref (g.1 (4 * x1.toNatClampNeg + 3))) X hw (tP (okP_r hi3)) rfl inA_X2 0 (by decide) (List.mem_append_left _ (List.mem_map.mpr ⟨_, List.mem_of_getElem? (i := 5) rfl, rfl⟩)) rfl dX4_words_14 ?_
    refine lv_iload_n hx hb dX4_words_17 rfl (lv_at hl 2 rfl) ?_
    obtain ⟨hi4, h⟩ := h
    refine m_aald X hw (tT (okP_r hi3)) 2 rfl hi4 dX4_words_18 ?_
    refine m_getN (v := .int (cS σ2 (16 * x1.toNatClampNeg + x2.toNatClampNeg))) X hw (tW (okW_t (okP_r hi3) hi4)) rfl inA_X3 1 (by decide) (List.mem_append_left _ (List.mem_map.mpr ⟨_, List.mem_of_getElem? (i := 2) rfl, rfl⟩)) rfl dX4_words_19 ?_
    refine lv_goto (tgt := 26) hx hb dX4_words_22 (by decide) ?_
    exact m_iret X hr hw hS h dX4_words_26
def wpX4_words (x1 : Int32) (x2 : Int32) (σ : CS) (Q : Int32 → CS → Prop) : Prop := wpX4_words_0 x1 x2 Q σ
theorem kX4_words {l : Launch} {D : va_G} {A : Nat → Prop} {g : mG} (hg : inj g) {x1 : Int32} {x2 : Int32} {σ : CS} {Q : Int32 → CS → Prop} (h : wpX4_words x1 x2 σ Q) : Met l yX4_words (Cond.code yX4_words cX4_words 3 (some .int) :: wsA) rmX4_words (mPc D (tyG g) A (cT g σ) [.ref (g.1 2010), .int x1, .int x2]) (va_Qi Q (fun u t => wd D A (cT g u) t.heap) A) 0 0 A :=
  m_met (by decide +kernel) (Nat.le_of_ble_eq_true rfl) (fun p e s m below meth c X hr H locs ls hw hS hl => wX4_words_0 hg X hr σ h H locs ls hw hS (lv_sub hl [0, 1, 2] rfl))
theorem fX4_words : vfit yX4_words cX4_words 3 (some .int) 2 := ⟨mw_613, mw_614, mw_2, mw_615, by decide +kernel, by decide +kernel, by decide +kernel⟩
/-! BigPolys.wordOf(III)I -/
def rmX4_wordOf : Room := { frames := 2, cells := 0, slots := 0, locals := 41 }
def wpX4_wordOf_30 (x1 : Int32) (x2 : Int32) (x3 : Int32) (Q : Int32 → CS → Prop) (σ : CS) : Prop :=
  Q (-1 : Int32) σ
set_option maxRecDepth 100000 in
set_option maxHeartbeats 4000000 in
theorem wX4_wordOf_30 {p : Program} {l : Launch} {e : Env} {s : State} {m : MethodId} {args : Array Value} {below : List Frame} {meth : Method} {c : Code} {D : va_G} {A : Nat → Prop} {g : mG} (hg : inj g) {x1 : Int32} {x2 : Int32} {x3 : Int32} (X : cx p m meth c s args cX4_wordOf 4 RX4 D (tyG g)) (hr : meth.sig.returnType = (some .int)) {Q : Int32 → CS → Prop} : ∀ (σ : CS), wpX4_wordOf_30 x1 x2 x3 Q σ → cW p l e rmX4_wordOf s m args below meth c (MQ below (va_Qi Q (fun u t => wd D A (cT g u) t.heap) A) args s 0 0 A) D A (cT g σ) 30 4 [(0, .ref (g.1 2010)), (1, .int x1), (2, .int x2), (3, .int x3)] := by
  obtain ⟨hx, hb, hml, hown, hts, hK, hlk⟩ := id X
  intro σ h H locs ls hw hS hl
  unfold wpX4_wordOf_30 at h
  refine lv_iconst (v := (-1 : Int32)) hx hb dX4_wordOf_30 (by decide) ?_
  exact m_iret X hr hw hS h dX4_wordOf_31
def wpX4_wordOf_0 (x1 : Int32) (x2 : Int32) (x3 : Int32) (Q : Int32 → CS → Prop) (σ : CS) : Prop :=
  wpX4_isCoefficient x1 x2 σ (fun (r1 : Int32) (σ2 : CS) =>
    (r1 = 0 →
      wpX4_wordOf_30 x1 x2 x3 Q σ2) ∧
    (¬ r1 = 0 →
      (x3 < 0 →
        wpX4_wordOf_30 x1 x2 x3 Q σ2) ∧
      (¬ x3 < 0 →
        vp_in x1 8 ∧ (
        vp_in x2 (tlen x1.toNatClampNeg) ∧ (
        (x3 < (cS σ2 (16 * x1.toNatClampNeg + x2.toNatClampNeg)) →
          vp_in x1 8 ∧ (
          vp_in x2 (tlen x1.toNatClampNeg) ∧ (
          vp_in x3 (capW (16 * x1.toNatClampNeg + x2.toNatClampNeg)) ∧ (
          Q (cF σ2 (16 * x1.toNatClampNeg + x2.toNatClampNeg) x3.toNatClampNeg) σ2)))) ∧
        (¬ x3 < (cS σ2 (16 * x1.toNatClampNeg + x2.toNatClampNeg)) →
          wpX4_wordOf_30 x1 x2 x3 Q σ2))))))
set_option maxRecDepth 100000 in
set_option maxHeartbeats 4000000 in
theorem wX4_wordOf_0 {p : Program} {l : Launch} {e : Env} {s : State} {m : MethodId} {args : Array Value} {below : List Frame} {meth : Method} {c : Code} {D : va_G} {A : Nat → Prop} {g : mG} (hg : inj g) {x1 : Int32} {x2 : Int32} {x3 : Int32} (X : cx p m meth c s args cX4_wordOf 4 RX4 D (tyG g)) (hr : meth.sig.returnType = (some .int)) {Q : Int32 → CS → Prop} : ∀ (σ : CS), wpX4_wordOf_0 x1 x2 x3 Q σ → cW p l e rmX4_wordOf s m args below meth c (MQ below (va_Qi Q (fun u t => wd D A (cT g u) t.heap) A) args s 0 0 A) D A (cT g σ) 0 4 [(0, .ref (g.1 2010)), (1, .int x1), (2, .int x2), (3, .int x3)] := by
  obtain ⟨hx, hb, hml, hown, hts, hK, hlk⟩ := id X
  intro σ h H locs ls hw hS hl
  unfold wpX4_wordOf_0 at h
  refine lv_iload_n hx hb dX4_wordOf_0 rfl (lv_at hl 1 rfl) ?_
  refine lv_iload_n hx hb dX4_wordOf_1 rfl (lv_at hl 2 rfl) ?_
  refine m_cSi (TT := cT g) (As := [.int x1, .int x2]) (rest := []) X hl.1 hw hS (kX4_isCoefficient hg h) mw_90 fX4_isCoefficient ⟨rfl, rfl, Nat.le_of_ble_eq_true rfl, Nat.le_of_ble_eq_true rfl⟩ rfl rfl (Nat.le_of_ble_eq_true rfl) dX4_wordOf_2 (fun r1 σ2 H locs h hw hS => ?_)
  refine lv_if_eq (tgt := 30) hx hb dX4_wordOf_5 (by decide) (fun hc => ?_) (fun hc => ?_)
  · replace h := h.1 hc
    exact wX4_wordOf_30 hg X hr _ h H locs ls hw hS (lv_sub hl [0, 1, 2, 3] rfl)
  · replace h := h.2 hc
    refine lv_iload_n hx hb dX4_wordOf_8 rfl (lv_at hl 3 rfl) ?_
    refine lv_if_lt (tgt := 30) hx hb dX4_wordOf_9 (by decide) (fun hc => ?_) (fun hc => ?_)
    · replace h := h.1 hc
      exact wX4_wordOf_30 hg X hr _ h H locs ls hw hS (lv_sub hl [0, 1, 2, 3] rfl)
    · replace h := h.2 hc
      refine lv_iload_n hx hb dX4_wordOf_12 rfl (lv_at hl 3 rfl) ?_
      refine lv_aload_n hx hb dX4_wordOf_13 rfl (lv_at hl 0 rfl) ?_
      refine m_get (v := .ref (g.1 2007)) X hw tG rfl inA_X4 0 (by decide) mw_13 rfl dX4_wordOf_14 ?_
      refine lv_iload_n hx hb dX4_wordOf_17 rfl (lv_at hl 1 rfl) ?_
      obtain ⟨hi3, h⟩ := h
      refine m_aald X hw tR 3 rfl hi3 dX4_wordOf_18 ?_
      refine m_getN (v := .ref (g.1 (4 * x1.toNatClampNeg + 3))) X hw (tP (okP_r hi3)) rfl inA_X2 0 (by decide) (List.mem_append_left _ (List.mem_map.mpr ⟨_, List.mem_of_getElem? (i := 5) rfl, rfl⟩)) rfl dX4_wordOf_19 ?_
      refine lv_iload_n hx hb dX4_wordOf_22 rfl (lv_at hl 2 rfl) ?_
      obtain ⟨hi4, h⟩ := h
      refine m_aald X hw (tT (okP_r hi3)) 2 rfl hi4 dX4_wordOf_23 ?_
      refine m_getN (v := .int (cS σ2 (16 * x1.toNatClampNeg + x2.toNatClampNeg))) X hw (tW (okW_t (okP_r hi3) hi4)) rfl inA_X3 1 (by decide) (List.mem_append_left _ (List.mem_map.mpr ⟨_, List.mem_of_getElem? (i := 2) rfl, rfl⟩)) rfl dX4_wordOf_24 ?_
      refine lv_icmp_lt (tgt := 32) hx hb dX4_wordOf_27 (by decide) (fun hc => ?_) (fun hc => ?_)
      · replace h := h.1 hc
        refine lv_aload_n hx hb dX4_wordOf_32 rfl (lv_at hl 0 rfl) ?_
        refine m_get (v := .ref (g.1 2007)) X hw tG rfl inA_X4 0 (by decide) mw_13 rfl dX4_wordOf_33 ?_
        refine lv_iload_n hx hb dX4_wordOf_36 rfl (lv_at hl 1 rfl) ?_
        obtain ⟨hi5, h⟩ := h
        refine m_aald X hw tR 3 rfl hi5 dX4_wordOf_37 ?_
        refine m_getN (v := .ref (g.1 (4 * x1.toNatClampNeg + 3))) X hw (tP (okP_r hi5)) rfl inA_X2 0 (by decide) (List.mem_append_left _ (List.mem_map.mpr ⟨_, List.mem_of_getElem? (i := 5) rfl, rfl⟩)) rfl dX4_wordOf_38 ?_
        refine lv_iload_n hx hb dX4_wordOf_41 rfl (lv_at hl 2 rfl) ?_
        obtain ⟨hi6, h⟩ := h
        refine m_aald X hw (tT (okP_r hi5)) 2 rfl hi6 dX4_wordOf_42 ?_
        refine m_getN (v := .ref (g.1 (4 * (16 * x1.toNatClampNeg + x2.toNatClampNeg) + 1))) X hw (tW (okW_t (okP_r hi5) hi6)) rfl inA_X3 0 (by decide) (List.mem_append_left _ (List.mem_map.mpr ⟨_, List.mem_of_getElem? (i := 3) rfl, rfl⟩)) rfl dX4_wordOf_43 ?_
        refine lv_iload_n hx hb dX4_wordOf_46 rfl (lv_at hl 3 rfl) ?_
        obtain ⟨hi, h⟩ := h
        refine m_iald X hw (tD (okW_t (okP_r hi5) hi6)) 0 rfl hi dX4_wordOf_47 ?_
        exact m_iret X hr hw hS h dX4_wordOf_48
      · replace h := h.2 hc
        exact wX4_wordOf_30 hg X hr _ h H locs ls hw hS (lv_sub hl [0, 1, 2, 3] rfl)
def wpX4_wordOf (x1 : Int32) (x2 : Int32) (x3 : Int32) (σ : CS) (Q : Int32 → CS → Prop) : Prop := wpX4_wordOf_0 x1 x2 x3 Q σ
theorem kX4_wordOf {l : Launch} {D : va_G} {A : Nat → Prop} {g : mG} (hg : inj g) {x1 : Int32} {x2 : Int32} {x3 : Int32} {σ : CS} {Q : Int32 → CS → Prop} (h : wpX4_wordOf x1 x2 x3 σ Q) : Met l yX4_wordOf (Cond.code yX4_wordOf cX4_wordOf 4 (some .int) :: wsA) rmX4_wordOf (mPc D (tyG g) A (cT g σ) [.ref (g.1 2010), .int x1, .int x2, .int x3]) (va_Qi Q (fun u t => wd D A (cT g u) t.heap) A) 0 0 A :=
  m_met (by decide +kernel) (Nat.le_of_ble_eq_true rfl) (fun p e s m below meth c X hr H locs ls hw hS hl => wX4_wordOf_0 hg X hr σ h H locs ls hw hS (lv_sub hl [0, 1, 2, 3] rfl))
theorem fX4_wordOf : vfit yX4_wordOf cX4_wordOf 4 (some .int) 3 := ⟨mw_621, mw_622, mw_2, mw_623, by decide +kernel, by decide +kernel, by decide +kernel⟩
/-! BigPolys.same(II)Z -/
def rmX4_same : Room := { frames := 3, cells := 0, slots := 0, locals := 65 }
def wpX4_same_36 (x1 : Int32) (x2 : Int32) (Q : Int32 → CS → Prop) (σ : CS) : Prop :=
  Q (0 : Int32) σ
set_option maxRecDepth 100000 in
set_option maxHeartbeats 4000000 in
theorem wX4_same_36 {p : Program} {l : Launch} {e : Env} {s : State} {m : MethodId} {args : Array Value} {below : List Frame} {meth : Method} {c : Code} {D : va_G} {A : Nat → Prop} {g : mG} (hg : inj g) {x1 : Int32} {x2 : Int32} (X : cx p m meth c s args cX4_same 3 RX4 D (tyG g)) (hr : meth.sig.returnType = (some .boolean)) {Q : Int32 → CS → Prop} : ∀ (σ : CS), wpX4_same_36 x1 x2 Q σ → cW p l e rmX4_same s m args below meth c (MQ below (va_Qi Q (fun u t => wd D A (cT g u) t.heap) A) args s 0 0 A) D A (cT g σ) 36 3 [(0, .ref (g.1 2010)), (1, .int x1), (2, .int x2)] := by
  obtain ⟨hx, hb, hml, hown, hts, hK, hlk⟩ := id X
  intro σ h H locs ls hw hS hl
  unfold wpX4_same_36 at h
  refine lv_iconst (v := (0 : Int32)) hx hb dX4_same_36 (by decide) ?_
  exact m_zret X hr rfl hw hS h dX4_same_37
def wpX4_same_0 (x1 : Int32) (x2 : Int32) (Q : Int32 → CS → Prop) (σ : CS) : Prop :=
  wpX4_isRegister x1 σ (fun (r1 : Int32) (σ2 : CS) =>
    (r1 = 0 →
      wpX4_same_36 x1 x2 Q σ2) ∧
    (¬ r1 = 0 →
      wpX4_isRegister x2 σ2 (fun (r3 : Int32) (σ4 : CS) =>
        (r3 = 0 →
          wpX4_same_36 x1 x2 Q σ4) ∧
        (¬ r3 = 0 →
          vp_in x1 8 ∧ (
          vp_in x2 8 ∧ (
          wpX2_isLike x1.toNatClampNeg x2.toNatClampNeg σ4 (fun (r7 : Int32) (σ8 : CS) =>
            (r7 = 0 →
              wpX4_same_36 x1 x2 Q σ8) ∧
            (¬ r7 = 0 →
              Q (1 : Int32) σ8))))))))
set_option maxRecDepth 100000 in
set_option maxHeartbeats 4000000 in
theorem wX4_same_0 {p : Program} {l : Launch} {e : Env} {s : State} {m : MethodId} {args : Array Value} {below : List Frame} {meth : Method} {c : Code} {D : va_G} {A : Nat → Prop} {g : mG} (hg : inj g) {x1 : Int32} {x2 : Int32} (X : cx p m meth c s args cX4_same 3 RX4 D (tyG g)) (hr : meth.sig.returnType = (some .boolean)) {Q : Int32 → CS → Prop} : ∀ (σ : CS), wpX4_same_0 x1 x2 Q σ → cW p l e rmX4_same s m args below meth c (MQ below (va_Qi Q (fun u t => wd D A (cT g u) t.heap) A) args s 0 0 A) D A (cT g σ) 0 3 [(0, .ref (g.1 2010)), (1, .int x1), (2, .int x2)] := by
  obtain ⟨hx, hb, hml, hown, hts, hK, hlk⟩ := id X
  intro σ h H locs ls hw hS hl
  unfold wpX4_same_0 at h
  refine lv_iload_n hx hb dX4_same_0 rfl (lv_at hl 1 rfl) ?_
  refine m_cSi (TT := cT g) (As := [.int x1]) (rest := []) X hl.1 hw hS (kX4_isRegister hg h) mw_93 fX4_isRegister ⟨rfl, rfl, Nat.le_of_ble_eq_true rfl, Nat.le_of_ble_eq_true rfl⟩ rfl rfl (Nat.le_of_ble_eq_true rfl) dX4_same_1 (fun r1 σ2 H locs h hw hS => ?_)
  refine lv_if_eq (tgt := 36) hx hb dX4_same_4 (by decide) (fun hc => ?_) (fun hc => ?_)
  · replace h := h.1 hc
    exact wX4_same_36 hg X hr _ h H locs ls hw hS (lv_sub hl [0, 1, 2] rfl)
  · replace h := h.2 hc
    refine lv_iload_n hx hb dX4_same_7 rfl (lv_at hl 2 rfl) ?_
    refine m_cSi (TT := cT g) (As := [.int x2]) (rest := []) X hl.1 hw hS (kX4_isRegister hg h) mw_93 fX4_isRegister ⟨rfl, rfl, Nat.le_of_ble_eq_true rfl, Nat.le_of_ble_eq_true rfl⟩ rfl rfl (Nat.le_of_ble_eq_true rfl) dX4_same_8 (fun r3 σ4 H locs h hw hS => ?_)
    refine lv_if_eq (tgt := 36) hx hb dX4_same_11 (by decide) (fun hc => ?_) (fun hc => ?_)
    · replace h := h.1 hc
      exact wX4_same_36 hg X hr _ h H locs ls hw hS (lv_sub hl [0, 1, 2] rfl)
    · replace h := h.2 hc
      refine lv_aload_n hx hb dX4_same_14 rfl (lv_at hl 0 rfl) ?_
      refine m_get (v := .ref (g.1 2007)) X hw tG rfl inA_X4 0 (by decide) mw_13 rfl dX4_same_15 ?_
      refine lv_iload_n hx hb dX4_same_18 rfl (lv_at hl 1 rfl) ?_
      obtain ⟨hi5, h⟩ := h
      refine m_aald X hw tR 3 rfl hi5 dX4_same_19 ?_
      refine lv_aload_n hx hb dX4_same_20 rfl (lv_at hl 0 rfl) ?_
      refine m_get (v := .ref (g.1 2007)) X hw tG rfl inA_X4 0 (by decide) mw_13 rfl dX4_same_21 ?_
      refine lv_iload_n hx hb dX4_same_24 rfl (lv_at hl 2 rfl) ?_
      obtain ⟨hi6, h⟩ := h
      refine m_aald X hw tR 3 rfl hi6 dX4_same_25 ?_
      refine m_cVi (TT := cT g) (As := [.ref (g.1 (4 * x2.toNatClampNeg + 2))]) (rest := []) X hl.1 hw hS (kX2_isLike hg (okP_r hi5) (okP_r hi6) h) mw_633 fX2_isLike (tP (okP_r hi5)) rfl rfl ⟨rfl, rfl, Nat.le_of_ble_eq_true rfl, Nat.le_of_ble_eq_true rfl⟩ rfl rfl (Nat.le_of_ble_eq_true rfl) dX4_same_26 (fun r7 σ8 H locs h hw hS => ?_)
      refine lv_if_eq (tgt := 36) hx hb dX4_same_29 (by decide) (fun hc => ?_) (fun hc => ?_)
      · replace h := h.1 hc
        exact wX4_same_36 hg X hr _ h H locs ls hw hS (lv_sub hl [0, 1, 2] rfl)
      · replace h := h.2 hc
        refine lv_iconst (v := (1 : Int32)) hx hb dX4_same_32 (by decide) ?_
        refine lv_goto (tgt := 37) hx hb dX4_same_33 (by decide) ?_
        exact m_zret X hr rfl hw hS h dX4_same_37
def wpX4_same (x1 : Int32) (x2 : Int32) (σ : CS) (Q : Int32 → CS → Prop) : Prop := wpX4_same_0 x1 x2 Q σ
theorem kX4_same {l : Launch} {D : va_G} {A : Nat → Prop} {g : mG} (hg : inj g) {x1 : Int32} {x2 : Int32} {σ : CS} {Q : Int32 → CS → Prop} (h : wpX4_same x1 x2 σ Q) : Met l yX4_same (Cond.code yX4_same cX4_same 3 (some .boolean) :: wsA) rmX4_same (mPc D (tyG g) A (cT g σ) [.ref (g.1 2010), .int x1, .int x2]) (va_Qi Q (fun u t => wd D A (cT g u) t.heap) A) 0 0 A :=
  m_met (by decide +kernel) (Nat.le_of_ble_eq_true rfl) (fun p e s m below meth c X hr H locs ls hw hS hl => wX4_same_0 hg X hr σ h H locs ls hw hS (lv_sub hl [0, 1, 2] rfl))
theorem fX4_same : vfit yX4_same cX4_same 3 (some .boolean) 2 := ⟨mw_630, mw_631, mw_2, mw_632, by decide +kernel, by decide +kernel, by decide +kernel⟩
