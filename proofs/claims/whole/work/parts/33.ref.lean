/-! BigPolysModel.signAt(IJJ)I -/
def rmX5_signAt : Room := { frames := 2, cells := 0, slots := 0, locals := 59 }
def wbX5_signAt_23 (x1 : Int32) (y2 : Int64) (y3 : Int64) (Q : Int32 → RS → Prop) (N23 : Int32 → RS → Prop) (i6 : Int32) (σ : RS) : Prop :=
  (i6 < 0 →
    vp_in (222 : Int32) 227 ∧ (
    Q (rG σ (222 : Int32).toNatClampNeg) σ)) ∧
  (¬ i6 < 0 →
    wpX5_put (221 : Int32) y2 σ (fun (σ2 : RS) =>
      wpX5_times (219 : Int32) (222 : Int32) (221 : Int32) σ2 (fun (σ4 : RS) =>
        wpX5_at x1 i6 σ4 (fun (r5 : Int32) (σ6 : RS) =>
          wpX5_times (220 : Int32) r5 (223 : Int32) σ6 (fun (σ8 : RS) =>
            wpX5_sum (222 : Int32) (219 : Int32) (220 : Int32) (1 : Int32) σ8 (fun (σ10 : RS) =>
              wpX5_put (221 : Int32) y3 σ10 (fun (σ12 : RS) =>
                wpX5_times (219 : Int32) (223 : Int32) (221 : Int32) σ12 (fun (σ14 : RS) =>
                  wpX5_copy (219 : Int32) (223 : Int32) σ14 (fun (σ16 : RS) =>
                    ∀ a17 : Int32, a17 = i6 + (-1 : Int32) →
                    N23 a17 σ16)))))))))
set_option maxRecDepth 100000 in
set_option maxHeartbeats 4000000 in
theorem wX5_signAt_23 {p : Program} {l : Launch} {e : Env} {s : State} {m : MethodId} {args : Array Value} {below : List Frame} {meth : Method} {c : Code} {D : va_G} {A : Nat → Prop} {g : mG} (hg : inj g) {x1 : Int32} {y2 : Int64} {y3 : Int64} (X : cx p m meth c s args cX5_signAt 7 RX5 D (tyG g)) (hr : meth.sig.returnType = (some .int)) {Q : Int32 → RS → Prop} : ∀ (n : Nat) (i6 : Int32) (σ : RS), lq2 (wbX5_signAt_23 x1 y2 y3 Q) n i6 σ → cW p l e rmX5_signAt s m args below meth c (MQ below (va_Qi Q (fun u t => wd D A (rT g u) t.heap) A) args s 0 0 A) D A (rT g σ) 23 7 [(0, .ref (g.1 5000)), (1, .int x1), (2, .long y2), (4, .long y3), (6, .int i6)] := by
  obtain ⟨hx, hb, hml, hown, hts, hK, hlk⟩ := id X
  intro n
  induction n with
  | zero =>
    intro i6 σ h
    exact h.elim
  | succ n hN23 =>
    intro i6 σ h H locs ls hw hS hl
    replace h : wbX5_signAt_23 x1 y2 y3 Q (lq2 (wbX5_signAt_23 x1 y2 y3 Q) n) i6 σ := h
    unfold wbX5_signAt_23 at h
    refine lv_iload hx hb dX5_signAt_23 (lv_at hl 4 rfl) ?_
    refine lv_if_lt (tgt := 117) hx hb dX5_signAt_25 (by decide) (fun hc => ?_) (fun hc => ?_)
    · replace h := h.1 hc
      refine lv_aload_n hx hb dX5_signAt_117 rfl (lv_at hl 0 rfl) ?_
      refine m_get (v := .ref (g.1 5003)) X hw qM rfl inA_X5 2 (by decide) mw_79 rfl dX5_signAt_118 ?_
      refine lv_sipush (v := (222 : Int32)) hx hb dX5_signAt_121 (by decide) ?_
      obtain ⟨hi, h⟩ := h
      refine m_iald X hw qG 0 rfl hi dX5_signAt_124 ?_
      exact m_iret X hr hw hS h dX5_signAt_125
    · replace h := h.2 hc
      refine lv_aload_n hx hb dX5_signAt_28 rfl (lv_at hl 0 rfl) ?_
      refine lv_sipush (v := (221 : Int32)) hx hb dX5_signAt_29 (by decide) ?_
      refine lv_lload_n hx hb dX5_signAt_32 rfl (lv_at hl 2 rfl) ?_
      refine m_cVv (TT := rT g) (As := [.int (221 : Int32), .long y2]) (rest := []) X hl.1 hw hS (kX5_put hg h) mw_151 fX5_put qM rfl rfl ⟨rfl, rfl, Nat.le_of_ble_eq_true rfl, Nat.le_of_ble_eq_true rfl⟩ rfl rfl (Nat.le_of_ble_eq_true rfl) dX5_signAt_33 (fun σ2 H locs h hw hS => ?_)
      refine lv_aload_n hx hb dX5_signAt_36 rfl (lv_at hl 0 rfl) ?_
      refine lv_sipush (v := (219 : Int32)) hx hb dX5_signAt_37 (by decide) ?_
      refine lv_sipush (v := (222 : Int32)) hx hb dX5_signAt_40 (by decide) ?_
      refine lv_sipush (v := (221 : Int32)) hx hb dX5_signAt_43 (by decide) ?_
      refine m_cVv (TT := rT g) (As := [.int (219 : Int32), .int (222 : Int32), .int (221 : Int32)]) (rest := []) X hl.1 hw hS (kX5_times hg h) mw_275 fX5_times qM rfl rfl ⟨rfl, rfl, Nat.le_of_ble_eq_true rfl, Nat.le_of_ble_eq_true rfl⟩ rfl rfl (Nat.le_of_ble_eq_true rfl) dX5_signAt_46 (fun σ4 H locs h hw hS => ?_)
      refine lv_aload_n hx hb dX5_signAt_49 rfl (lv_at hl 0 rfl) ?_
      refine lv_sipush (v := (220 : Int32)) hx hb dX5_signAt_50 (by decide) ?_
      refine lv_iload_n hx hb dX5_signAt_53 rfl (lv_at hl 1 rfl) ?_
      refine lv_iload hx hb dX5_signAt_54 (lv_at hl 4 rfl) ?_
      refine m_cSi (TT := rT g) (As := [.int x1, .int i6]) (rest := [.int (220 : Int32), .ref (g.1 5000)]) X hl.1 hw hS (kX5_at hg h) mw_119 fX5_at ⟨rfl, rfl, Nat.le_of_ble_eq_true rfl, Nat.le_of_ble_eq_true rfl⟩ rfl rfl (Nat.le_of_ble_eq_true rfl) dX5_signAt_56 (fun r5 σ6 H locs h hw hS => ?_)
      refine lv_sipush (v := (223 : Int32)) hx hb dX5_signAt_59 (by decide) ?_
      refine m_cVv (TT := rT g) (As := [.int (220 : Int32), .int r5, .int (223 : Int32)]) (rest := []) X hl.1 hw hS (kX5_times hg h) mw_275 fX5_times qM rfl rfl ⟨rfl, rfl, Nat.le_of_ble_eq_true rfl, Nat.le_of_ble_eq_true rfl⟩ rfl rfl (Nat.le_of_ble_eq_true rfl) dX5_signAt_62 (fun σ8 H locs h hw hS => ?_)
      refine lv_aload_n hx hb dX5_signAt_65 rfl (lv_at hl 0 rfl) ?_
      refine lv_sipush (v := (222 : Int32)) hx hb dX5_signAt_66 (by decide) ?_
      refine lv_sipush (v := (219 : Int32)) hx hb dX5_signAt_69 (by decide) ?_
      refine lv_sipush (v := (220 : Int32)) hx hb dX5_signAt_72 (by decide) ?_
      refine lv_iconst (v := (1 : Int32)) hx hb dX5_signAt_75 (by decide) ?_
      refine m_cVv (TT := rT g) (As := [.int (222 : Int32), .int (219 : Int32), .int (220 : Int32), .int (1 : Int32)]) (rest := []) X hl.1 hw hS (kX5_sum hg h) mw_155 fX5_sum qM rfl rfl ⟨rfl, rfl, Nat.le_of_ble_eq_true rfl, Nat.le_of_ble_eq_true rfl⟩ rfl rfl (Nat.le_of_ble_eq_true rfl) dX5_signAt_76 (fun σ10 H locs h hw hS => ?_)
      refine lv_aload_n hx hb dX5_signAt_79 rfl (lv_at hl 0 rfl) ?_
      refine lv_sipush (v := (221 : Int32)) hx hb dX5_signAt_80 (by decide) ?_
      refine lv_lload hx hb dX5_signAt_83 (lv_at hl 3 rfl) ?_
      refine m_cVv (TT := rT g) (As := [.int (221 : Int32), .long y3]) (rest := []) X hl.1 hw hS (kX5_put hg h) mw_151 fX5_put qM rfl rfl ⟨rfl, rfl, Nat.le_of_ble_eq_true rfl, Nat.le_of_ble_eq_true rfl⟩ rfl rfl (Nat.le_of_ble_eq_true rfl) dX5_signAt_85 (fun σ12 H locs h hw hS => ?_)
      refine lv_aload_n hx hb dX5_signAt_88 rfl (lv_at hl 0 rfl) ?_
      refine lv_sipush (v := (219 : Int32)) hx hb dX5_signAt_89 (by decide) ?_
      refine lv_sipush (v := (223 : Int32)) hx hb dX5_signAt_92 (by decide) ?_
      refine lv_sipush (v := (221 : Int32)) hx hb dX5_signAt_95 (by decide) ?_
      refine m_cVv (TT := rT g) (As := [.int (219 : Int32), .int (223 : Int32), .int (221 : Int32)]) (rest := []) X hl.1 hw hS (kX5_times hg h) mw_275 fX5_times qM rfl rfl ⟨rfl, rfl, Nat.le_of_ble_eq_true rfl, Nat.le_of_ble_eq_true rfl⟩ rfl rfl (Nat.le_of_ble_eq_true rfl) dX5_signAt_98 (fun σ14 H locs h hw hS => ?_)
      refine lv_aload_n hx hb dX5_signAt_101 rfl (lv_at hl 0 rfl) ?_
      refine lv_sipush (v := (219 : Int32)) hx hb dX5_signAt_102 (by decide) ?_
      refine lv_sipush (v := (223 : Int32)) hx hb dX5_signAt_105 (by decide) ?_
      refine m_cVv (TT := rT g) (As := [.int (219 : Int32), .int (223 : Int32)]) (rest := []) X hl.1 hw hS (kX5_copy hg h) mw_159 fX5_copy qM rfl rfl ⟨rfl, rfl, Nat.le_of_ble_eq_true rfl, Nat.le_of_ble_eq_true rfl⟩ rfl rfl (Nat.le_of_ble_eq_true rfl) dX5_signAt_108 (fun σ16 H locs h hw hS => ?_)
      obtain ⟨a17, ea17⟩ : ∃ z : Int32, z = i6 + (-1 : Int32) := ⟨_, rfl⟩
      replace h := h a17 ea17
      refine lv_iinc (v := a17) (lv' := [(6, .int a17), (0, .ref (g.1 5000)), (1, .int x1), (2, .long y2), (4, .long y3)]) hx hb dX5_signAt_111 hl (k := 4) rfl (by rw [ea17]; rfl) (by decide) rfl (fun ls hl => ?_)
      refine lv_goto (tgt := 23) hx hb dX5_signAt_114 (by decide) ?_
      exact hN23 a17 _ h H locs ls hw hS (lv_sub hl [1, 2, 3, 4, 0] rfl)
def wpX5_signAt_0 (x1 : Int32) (y2 : Int64) (y3 : Int64) (Q : Int32 → RS → Prop) (σ : RS) : Prop :=
  wpX5_zero (222 : Int32) σ (fun (σ19 : RS) =>
    wpX5_put (223 : Int32) (1 : Int64) σ19 (fun (σ21 : RS) =>
      vp_in x1 24 ∧ (
      ∀ a22 : Int32, a22 = rD σ21 x1.toNatClampNeg →
      ∃ n, lq2 (wbX5_signAt_23 x1 y2 y3 Q) n a22 σ21)))
set_option maxRecDepth 100000 in
set_option maxHeartbeats 4000000 in
theorem wX5_signAt_0 {p : Program} {l : Launch} {e : Env} {s : State} {m : MethodId} {args : Array Value} {below : List Frame} {meth : Method} {c : Code} {D : va_G} {A : Nat → Prop} {g : mG} (hg : inj g) {x1 : Int32} {y2 : Int64} {y3 : Int64} (X : cx p m meth c s args cX5_signAt 7 RX5 D (tyG g)) (hr : meth.sig.returnType = (some .int)) {Q : Int32 → RS → Prop} : ∀ (σ : RS), wpX5_signAt_0 x1 y2 y3 Q σ → cW p l e rmX5_signAt s m args below meth c (MQ below (va_Qi Q (fun u t => wd D A (rT g u) t.heap) A) args s 0 0 A) D A (rT g σ) 0 7 [(0, .ref (g.1 5000)), (1, .int x1), (2, .long y2), (4, .long y3)] := by
  obtain ⟨hx, hb, hml, hown, hts, hK, hlk⟩ := id X
  intro σ h H locs ls hw hS hl
  unfold wpX5_signAt_0 at h
  refine lv_aload_n hx hb dX5_signAt_0 rfl (lv_at hl 0 rfl) ?_
  refine lv_sipush (v := (222 : Int32)) hx hb dX5_signAt_1 (by decide) ?_
  refine m_cVv (TT := rT g) (As := [.int (222 : Int32)]) (rest := []) X hl.1 hw hS (kX5_zero hg h) mw_122 fX5_zero qM rfl rfl ⟨rfl, rfl, Nat.le_of_ble_eq_true rfl, Nat.le_of_ble_eq_true rfl⟩ rfl rfl (Nat.le_of_ble_eq_true rfl) dX5_signAt_4 (fun σ19 H locs h hw hS => ?_)
  refine lv_aload_n hx hb dX5_signAt_7 rfl (lv_at hl 0 rfl) ?_
  refine lv_sipush (v := (223 : Int32)) hx hb dX5_signAt_8 (by decide) ?_
  refine lv_lconst (v := (1 : Int64)) hx hb dX5_signAt_11 (by decide) ?_
  refine m_cVv (TT := rT g) (As := [.int (223 : Int32), .long (1 : Int64)]) (rest := []) X hl.1 hw hS (kX5_put hg h) mw_151 fX5_put qM rfl rfl ⟨rfl, rfl, Nat.le_of_ble_eq_true rfl, Nat.le_of_ble_eq_true rfl⟩ rfl rfl (Nat.le_of_ble_eq_true rfl) dX5_signAt_12 (fun σ21 H locs h hw hS => ?_)
  refine lv_aload_n hx hb dX5_signAt_15 rfl (lv_at hl 0 rfl) ?_
  refine m_get (v := .ref (g.1 5004)) X hw qM rfl inA_X5 3 (by decide) mw_80 rfl dX5_signAt_16 ?_
  refine lv_iload_n hx hb dX5_signAt_19 rfl (lv_at hl 1 rfl) ?_
  obtain ⟨hi, h⟩ := h
  refine m_iald X hw qD 0 rfl hi dX5_signAt_20 ?_
  refine lv_topi (fun a22 ea22 => ?_)
  replace h := h a22 ea22
  refine lv_istore (lv' := [(6, .int a22), (0, .ref (g.1 5000)), (1, .int x1), (2, .long y2), (4, .long y3)]) hx hb dX5_signAt_21 hl (by decide) rfl (fun ls hl => ?_)
  obtain ⟨n9, h⟩ := h
  exact wX5_signAt_23 hg X hr n9 a22 _ h H locs ls hw hS (lv_sub hl [1, 2, 3, 4, 0] rfl)
def wpX5_signAt (x1 : Int32) (y2 : Int64) (y3 : Int64) (σ : RS) (Q : Int32 → RS → Prop) : Prop := wpX5_signAt_0 x1 y2 y3 Q σ
theorem kX5_signAt {l : Launch} {D : va_G} {A : Nat → Prop} {g : mG} (hg : inj g) {x1 : Int32} {y2 : Int64} {y3 : Int64} {σ : RS} {Q : Int32 → RS → Prop} (h : wpX5_signAt x1 y2 y3 σ Q) : Met l yX5_signAt (Cond.code yX5_signAt cX5_signAt 7 (some .int) :: wsA) rmX5_signAt (mPc D (tyG g) A (rT g σ) [.ref (g.1 5000), .int x1, .long y2, .long y3]) (va_Qi Q (fun u t => wd D A (rT g u) t.heap) A) 0 0 A :=
  m_met (by decide +kernel) (Nat.le_of_ble_eq_true rfl) (fun p e s m below meth c X hr H locs ls hw hS hl => wX5_signAt_0 hg X hr σ h H locs ls hw hS (lv_sub hl [0, 1, 2, 3] rfl))
theorem fX5_signAt : vfit yX5_signAt cX5_signAt 7 (some .int) 3 := ⟨mw_519, mw_520, mw_5, mw_521, by decide +kernel, by decide +kernel, by decide +kernel⟩
/-! BigPolysModel.sign(III)I -/
def rmX5_sign : Room := { frames := 3, cells := 0, slots := 0, locals := 85 }
def wpX5_sign_11 (x1 : Int32) (x2 : Int32) (x3 : Int32) (Q : Int32 → RS → Prop) (σ : RS) : Prop :=
  Q (2 : Int32) σ
set_option maxRecDepth 100000 in
set_option maxHeartbeats 4000000 in
theorem wX5_sign_11 {p : Program} {l : Launch} {e : Env} {s : State} {m : MethodId} {args : Array Value} {below : List Frame} {meth : Method} {c : Code} {D : va_G} {A : Nat → Prop} {g : mG} (hg : inj g) {x1 : Int32} {x2 : Int32} {x3 : Int32} (X : cx p m meth c s args cX5_sign 4 RX5 D (tyG g)) (hr : meth.sig.returnType = (some .int)) {Q : Int32 → RS → Prop} : ∀ (σ : RS), wpX5_sign_11 x1 x2 x3 Q σ → cW p l e rmX5_sign s m args below meth c (MQ below (va_Qi Q (fun u t => wd D A (rT g u) t.heap) A) args s 0 0 A) D A (rT g σ) 11 4 [(0, .ref (g.1 5000)), (1, .int x1), (2, .int x2), (3, .int x3)] := by
  obtain ⟨hx, hb, hml, hown, hts, hK, hlk⟩ := id X
  intro σ h H locs ls hw hS hl
  unfold wpX5_sign_11 at h
  refine lv_iconst (v := (2 : Int32)) hx hb dX5_sign_11 (by decide) ?_
  exact m_iret X hr hw hS h dX5_sign_12
def wpX5_sign_0 (x1 : Int32) (x2 : Int32) (x3 : Int32) (Q : Int32 → RS → Prop) (σ : RS) : Prop :=
  wpX5_isRegister x1 σ (fun (r1 : Int32) (σ2 : RS) =>
    (r1 = 0 →
      wpX5_sign_11 x1 x2 x3 Q σ2) ∧
    (¬ r1 = 0 →
      (¬ x3 = 0 →
        (0 ≤ x3 →
          wpX5_signAt x1 x2.toInt64 x3.toInt64 σ2 (fun (r3 : Int32) (σ4 : RS) =>
            Q r3 σ4)) ∧
        (¬ 0 ≤ x3 →
          wpX5_signAt x1 (-x2.toInt64) (-x3.toInt64) σ2 (fun (r5 : Int32) (σ6 : RS) =>
            Q r5 σ6))) ∧
      (x3 = 0 →
        wpX5_sign_11 x1 x2 x3 Q σ2)))
set_option maxRecDepth 100000 in
set_option maxHeartbeats 4000000 in
theorem wX5_sign_0 {p : Program} {l : Launch} {e : Env} {s : State} {m : MethodId} {args : Array Value} {below : List Frame} {meth : Method} {c : Code} {D : va_G} {A : Nat → Prop} {g : mG} (hg : inj g) {x1 : Int32} {x2 : Int32} {x3 : Int32} (X : cx p m meth c s args cX5_sign 4 RX5 D (tyG g)) (hr : meth.sig.returnType = (some .int)) {Q : Int32 → RS → Prop} : ∀ (σ : RS), wpX5_sign_0 x1 x2 x3 Q σ → cW p l e rmX5_sign s m args below meth c (MQ below (va_Qi Q (fun u t => wd D A (rT g u) t.heap) A) args s 0 0 A) D A (rT g σ) 0 4 [(0, .ref (g.1 5000)), (1, .int x1), (2, .int x2), (3, .int x3)] := by
  obtain ⟨hx, hb, hml, hown, hts, hK, hlk⟩ := id X
  intro σ h H locs ls hw hS hl
  unfold wpX5_sign_0 at h
  refine lv_iload_n hx hb dX5_sign_0 rfl (lv_at hl 1 rfl) ?_
  refine m_cSi (TT := rT g) (As := [.int x1]) (rest := []) X hl.1 hw hS (kX5_isRegister hg h) mw_113 fX5_isRegister ⟨rfl, rfl, Nat.le_of_ble_eq_true rfl, Nat.le_of_ble_eq_true rfl⟩ rfl rfl (Nat.le_of_ble_eq_true rfl) dX5_sign_1 (fun r1 σ2 H locs h hw hS => ?_)
  refine lv_if_eq (tgt := 11) hx hb dX5_sign_4 (by decide) (fun hc => ?_) (fun hc => ?_)
  · replace h := h.1 hc
    exact wX5_sign_11 hg X hr _ h H locs ls hw hS (lv_sub hl [0, 1, 2, 3] rfl)
  · replace h := h.2 hc
    refine lv_iload_n hx hb dX5_sign_7 rfl (lv_at hl 3 rfl) ?_
    refine lv_if_ne (tgt := 13) hx hb dX5_sign_8 (by decide) (fun hc => ?_) (fun hc => ?_)
    · replace h := h.1 hc
      refine lv_iload_n hx hb dX5_sign_13 rfl (lv_at hl 3 rfl) ?_
      refine lv_if_ge (tgt := 31) hx hb dX5_sign_14 (by decide) (fun hc => ?_) (fun hc => ?_)
      · replace h := h.1 hc
        refine lv_aload_n hx hb dX5_sign_31 rfl (lv_at hl 0 rfl) ?_
        refine lv_iload_n hx hb dX5_sign_32 rfl (lv_at hl 1 rfl) ?_
        refine lv_iload_n hx hb dX5_sign_33 rfl (lv_at hl 2 rfl) ?_
        refine lv_i2l (v := x2.toInt64) hx hb dX5_sign_34 rfl ?_
        refine lv_iload_n hx hb dX5_sign_35 rfl (lv_at hl 3 rfl) ?_
        refine lv_i2l (v := x3.toInt64) hx hb dX5_sign_36 rfl ?_
        refine m_cVi (TT := rT g) (As := [.int x1, .long x2.toInt64, .long x3.toInt64]) (rest := []) X hl.1 hw hS (kX5_signAt hg h) mw_518 fX5_signAt qM rfl rfl ⟨rfl, rfl, Nat.le_of_ble_eq_true rfl, Nat.le_of_ble_eq_true rfl⟩ rfl rfl (Nat.le_of_ble_eq_true rfl) dX5_sign_37 (fun r3 σ4 H locs h hw hS => ?_)
        exact m_iret X hr hw hS h dX5_sign_40
      · replace h := h.2 hc
        refine lv_aload_n hx hb dX5_sign_17 rfl (lv_at hl 0 rfl) ?_
        refine lv_iload_n hx hb dX5_sign_18 rfl (lv_at hl 1 rfl) ?_
        refine lv_iload_n hx hb dX5_sign_19 rfl (lv_at hl 2 rfl) ?_
        refine lv_i2l (v := x2.toInt64) hx hb dX5_sign_20 rfl ?_
        refine lv_lneg hx hb dX5_sign_21 ?_
        refine lv_iload_n hx hb dX5_sign_22 rfl (lv_at hl 3 rfl) ?_
        refine lv_i2l (v := x3.toInt64) hx hb dX5_sign_23 rfl ?_
        refine lv_lneg hx hb dX5_sign_24 ?_
        refine m_cVi (TT := rT g) (As := [.int x1, .long (-x2.toInt64), .long (-x3.toInt64)]) (rest := []) X hl.1 hw hS (kX5_signAt hg h) mw_518 fX5_signAt qM rfl rfl ⟨rfl, rfl, Nat.le_of_ble_eq_true rfl, Nat.le_of_ble_eq_true rfl⟩ rfl rfl (Nat.le_of_ble_eq_true rfl) dX5_sign_25 (fun r5 σ6 H locs h hw hS => ?_)
        refine lv_goto (tgt := 40) hx hb dX5_sign_28 (by decide) ?_
        exact m_iret X hr hw hS h dX5_sign_40
    · replace h := h.2 hc
      exact wX5_sign_11 hg X hr _ h H locs ls hw hS (lv_sub hl [0, 1, 2, 3] rfl)
def wpX5_sign (x1 : Int32) (x2 : Int32) (x3 : Int32) (σ : RS) (Q : Int32 → RS → Prop) : Prop := wpX5_sign_0 x1 x2 x3 Q σ
theorem kX5_sign {l : Launch} {D : va_G} {A : Nat → Prop} {g : mG} (hg : inj g) {x1 : Int32} {x2 : Int32} {x3 : Int32} {σ : RS} {Q : Int32 → RS → Prop} (h : wpX5_sign x1 x2 x3 σ Q) : Met l yX5_sign (Cond.code yX5_sign cX5_sign 4 (some .int) :: wsA) rmX5_sign (mPc D (tyG g) A (rT g σ) [.ref (g.1 5000), .int x1, .int x2, .int x3]) (va_Qi Q (fun u t => wd D A (rT g u) t.heap) A) 0 0 A :=
  m_met (by decide +kernel) (Nat.le_of_ble_eq_true rfl) (fun p e s m below meth c X hr H locs ls hw hS hl => wX5_sign_0 hg X hr σ h H locs ls hw hS (lv_sub hl [0, 1, 2, 3] rfl))
theorem fX5_sign : vfit yX5_sign cX5_sign 4 (some .int) 3 := ⟨mw_515, mw_516, mw_5, mw_517, by decide +kernel, by decide +kernel, by decide +kernel⟩
/-! BigPolysModel.makeChain(I)V -/
def rmX5_makeChain : Room := { frames := 7, cells := 0, slots := 0, locals := 178 }
def wbX5_makeChain_163 (x1 : Int32) (Q : RS → Prop) (N65 : Int32 → RS → Prop) (N163 : Int32 → Int32 → RS → Prop) (i2 : Int32) (i3 : Int32) (σ : RS) : Prop :=
  ((9 : Int32) ≤ i3 →
    N65 i2 (wK σ 4 ((rK σ 4) + (1 : Int32)))) ∧
  (¬ (9 : Int32) ≤ i3 →
    wpX5_at ((8 : Int32) + (rK σ 4)) i3 σ (fun (r1 : Int32) (σ2 : RS) =>
      wpX5_at (20 : Int32) i3 σ2 (fun (r3 : Int32) (σ4 : RS) =>
        vp_in r3 227 ∧ (
        vp_in r1 227 ∧ (
        ∀ a5 : Int32, a5 = i3 + (1 : Int32) →
        N163 i2 a5 (wG σ4 r1 (-(rG σ4 r3.toNatClampNeg))))))))
set_option maxRecDepth 100000 in
set_option maxHeartbeats 4000000 in
theorem wX5_makeChain_163 {p : Program} {l : Launch} {e : Env} {s : State} {m : MethodId} {args : Array Value} {below : List Frame} {meth : Method} {c : Code} {D : va_G} {A : Nat → Prop} {g : mG} (hg : inj g) {x1 : Int32} (X : cx p m meth c s args cX5_makeChain 4 RX5 D (tyG g)) (hr : meth.sig.returnType = none) {Q : RS → Prop} {N65 : Int32 → RS → Prop} (hN65 : ∀ (i2 : Int32) (σ : RS), N65 i2 σ → cW p l e rmX5_makeChain s m args below meth c (MQ below (va_Qv Q (fun u t => wd D A (rT g u) t.heap) A) args s 0 0 A) D A (rT g σ) 65 4 [(0, .ref (g.1 5000)), (1, .int x1), (2, .int i2)]) : ∀ (n : Nat) (i2 : Int32) (i3 : Int32) (σ : RS), lq3 (wbX5_makeChain_163 x1 Q N65) n i2 i3 σ → cW p l e rmX5_makeChain s m args below meth c (MQ below (va_Qv Q (fun u t => wd D A (rT g u) t.heap) A) args s 0 0 A) D A (rT g σ) 163 4 [(0, .ref (g.1 5000)), (1, .int x1), (2, .int i2), (3, .int i3)] := by
  obtain ⟨hx, hb, hml, hown, hts, hK, hlk⟩ := id X
  intro n
  induction n with
  | zero =>
    intro i2 i3 σ h
    exact h.elim
  | succ n hN163 =>
    intro i2 i3 σ h H locs ls hw hS hl
    replace h : wbX5_makeChain_163 x1 Q N65 (lq3 (wbX5_makeChain_163 x1 Q N65) n) i2 i3 σ := h
    unfold wbX5_makeChain_163 at h
    refine lv_iload_n hx hb dX5_makeChain_163 rfl (lv_at hl 3 rfl) ?_
    refine lv_bipush (v := (9 : Int32)) hx hb dX5_makeChain_164 (by decide) ?_
    refine lv_icmp_ge (tgt := 203) hx hb dX5_makeChain_166 (by decide) (fun hc => ?_) (fun hc => ?_)
    · replace h := h.1 hc
      refine lv_aload_n hx hb dX5_makeChain_203 rfl (lv_at hl 0 rfl) ?_
      refine lv_dup hx hb dX5_makeChain_204 rfl ?_
      refine m_get (v := .int (rK σ 4)) X hw qM rfl inA_X5 9 (by decide) mw_548 rfl dX5_makeChain_205 ?_
      refine lv_iconst (v := (1 : Int32)) hx hb dX5_makeChain_208 (by decide) ?_
      refine lv_iadd hx hb dX5_makeChain_209 ?_
      refine m_put (T' := rT g (wK σ 4 ((rK σ 4) + (1 : Int32)))) X hw hS qM rfl inA_X5 tyX5 tyX5_ok nmX5 9 (by decide) mw_548 rfl pd_I (Nat.le_of_ble_eq_true rfl) (vK4 hg) dX5_makeChain_210 (fun H locs hw hS => ?_)
      refine lv_goto (tgt := 65) hx hb dX5_makeChain_213 (by decide) ?_
      exact hN65 i2 _ h H locs ls hw hS (lv_sub hl [0, 1, 2] rfl)
    · replace h := h.2 hc
      refine lv_aload_n hx hb dX5_makeChain_169 rfl (lv_at hl 0 rfl) ?_
      refine m_get (v := .ref (g.1 5003)) X hw qM rfl inA_X5 2 (by decide) mw_79 rfl dX5_makeChain_170 ?_
      refine lv_bipush (v := (8 : Int32)) hx hb dX5_makeChain_173 (by decide) ?_
      refine lv_aload_n hx hb dX5_makeChain_175 rfl (lv_at hl 0 rfl) ?_
      refine m_get (v := .int (rK σ 4)) X hw qM rfl inA_X5 9 (by decide) mw_548 rfl dX5_makeChain_176 ?_
      refine lv_iadd hx hb dX5_makeChain_179 ?_
      refine lv_iload_n hx hb dX5_makeChain_180 rfl (lv_at hl 3 rfl) ?_
      refine m_cSi (TT := rT g) (As := [.int ((8 : Int32) + (rK σ 4)), .int i3]) (rest := [.ref (g.1 5003)]) X hl.1 hw hS (kX5_at hg h) mw_119 fX5_at ⟨rfl, rfl, Nat.le_of_ble_eq_true rfl, Nat.le_of_ble_eq_true rfl⟩ rfl rfl (Nat.le_of_ble_eq_true rfl) dX5_makeChain_181 (fun r1 σ2 H locs h hw hS => ?_)
      refine lv_aload_n hx hb dX5_makeChain_184 rfl (lv_at hl 0 rfl) ?_
      refine m_get (v := .ref (g.1 5003)) X hw qM rfl inA_X5 2 (by decide) mw_79 rfl dX5_makeChain_185 ?_
      refine lv_bipush (v := (20 : Int32)) hx hb dX5_makeChain_188 (by decide) ?_
      refine lv_iload_n hx hb dX5_makeChain_190 rfl (lv_at hl 3 rfl) ?_
      refine m_cSi (TT := rT g) (As := [.int (20 : Int32), .int i3]) (rest := [.ref (g.1 5003), .int r1, .ref (g.1 5003)]) X hl.1 hw hS (kX5_at hg h) mw_119 fX5_at ⟨rfl, rfl, Nat.le_of_ble_eq_true rfl, Nat.le_of_ble_eq_true rfl⟩ rfl rfl (Nat.le_of_ble_eq_true rfl) dX5_makeChain_191 (fun r3 σ4 H locs h hw hS => ?_)
      obtain ⟨hi, h⟩ := h
      refine m_iald X hw qG 0 rfl hi dX5_makeChain_194 ?_
      refine lv_ineg hx hb dX5_makeChain_195 ?_
      obtain ⟨hi, h⟩ := h
      refine m_iast (T' := rT g (wG σ4 r1 (-(rG σ4 r3.toNatClampNeg)))) X hw hS qG 0 rfl hi (vG hg) dX5_makeChain_196 (fun H locs hw hS => ?_)
      obtain ⟨a5, ea5⟩ : ∃ z : Int32, z = i3 + (1 : Int32) := ⟨_, rfl⟩
      replace h := h a5 ea5
      refine lv_iinc (v := a5) (lv' := [(3, .int a5), (0, .ref (g.1 5000)), (1, .int x1), (2, .int i2)]) hx hb dX5_makeChain_197 hl (k := 3) rfl (by rw [ea5]; rfl) (by decide) rfl (fun ls hl => ?_)
      refine lv_goto (tgt := 163) hx hb dX5_makeChain_200 (by decide) ?_
      exact hN163 i2 a5 _ h H locs ls hw hS (lv_sub hl [1, 2, 3, 0] rfl)
def wpX5_makeChain_137 (x1 : Int32) (Q : RS → Prop) (N65 : Int32 → RS → Prop) (i2 : Int32) (σ : RS) : Prop :=
  (i2 = 0 →
    N65 i2 σ) ∧
  (¬ i2 = 0 →
    wpX5_makePrimitive (20 : Int32) (1 : Int32) σ (fun (σ7 : RS) =>
      wpX5_copyAll (20 : Int32) ((8 : Int32) + (rK σ7 4)) σ7 (fun (σ9 : RS) =>
        ∃ n, lq3 (wbX5_makeChain_163 x1 Q N65) n i2 (0 : Int32) σ9)))
set_option maxRecDepth 100000 in
set_option maxHeartbeats 4000000 in
theorem wX5_makeChain_137 {p : Program} {l : Launch} {e : Env} {s : State} {m : MethodId} {args : Array Value} {below : List Frame} {meth : Method} {c : Code} {D : va_G} {A : Nat → Prop} {g : mG} (hg : inj g) {x1 : Int32} (X : cx p m meth c s args cX5_makeChain 4 RX5 D (tyG g)) (hr : meth.sig.returnType = none) {Q : RS → Prop} {N65 : Int32 → RS → Prop} (hN65 : ∀ (i2 : Int32) (σ : RS), N65 i2 σ → cW p l e rmX5_makeChain s m args below meth c (MQ below (va_Qv Q (fun u t => wd D A (rT g u) t.heap) A) args s 0 0 A) D A (rT g σ) 65 4 [(0, .ref (g.1 5000)), (1, .int x1), (2, .int i2)]) : ∀ (i2 : Int32) (σ : RS), wpX5_makeChain_137 x1 Q N65 i2 σ → cW p l e rmX5_makeChain s m args below meth c (MQ below (va_Qv Q (fun u t => wd D A (rT g u) t.heap) A) args s 0 0 A) D A (rT g σ) 137 4 [(0, .ref (g.1 5000)), (1, .int x1), (2, .int i2)] := by
  obtain ⟨hx, hb, hml, hown, hts, hK, hlk⟩ := id X
  intro i2 σ h H locs ls hw hS hl
  unfold wpX5_makeChain_137 at h
  refine lv_iload_n hx hb dX5_makeChain_137 rfl (lv_at hl 2 rfl) ?_
  refine lv_if_eq (tgt := 65) hx hb dX5_makeChain_138 (by decide) (fun hc => ?_) (fun hc => ?_)
  · replace h := h.1 hc
    exact hN65 i2 _ h H locs ls hw hS (lv_sub hl [0, 1, 2] rfl)
  · replace h := h.2 hc
    refine lv_aload_n hx hb dX5_makeChain_141 rfl (lv_at hl 0 rfl) ?_
    refine lv_bipush (v := (20 : Int32)) hx hb dX5_makeChain_142 (by decide) ?_
    refine lv_iconst (v := (1 : Int32)) hx hb dX5_makeChain_144 (by decide) ?_
    refine m_cVv (TT := rT g) (As := [.int (20 : Int32), .int (1 : Int32)]) (rest := []) X hl.1 hw hS (kX5_makePrimitive hg h) mw_472 fX5_makePrimitive qM rfl rfl ⟨rfl, rfl, Nat.le_of_ble_eq_true rfl, Nat.le_of_ble_eq_true rfl⟩ rfl rfl (Nat.le_of_ble_eq_true rfl) dX5_makeChain_145 (fun σ7 H locs h hw hS => ?_)
    refine lv_aload_n hx hb dX5_makeChain_148 rfl (lv_at hl 0 rfl) ?_
    refine lv_bipush (v := (20 : Int32)) hx hb dX5_makeChain_149 (by decide) ?_
    refine lv_bipush (v := (8 : Int32)) hx hb dX5_makeChain_151 (by decide) ?_
    refine lv_aload_n hx hb dX5_makeChain_153 rfl (lv_at hl 0 rfl) ?_
    refine m_get (v := .int (rK σ7 4)) X hw qM rfl inA_X5 9 (by decide) mw_548 rfl dX5_makeChain_154 ?_
    refine lv_iadd hx hb dX5_makeChain_157 ?_
    refine m_cVv (TT := rT g) (As := [.int (20 : Int32), .int ((8 : Int32) + (rK σ7 4))]) (rest := []) X hl.1 hw hS (kX5_copyAll hg h) mw_239 fX5_copyAll qM rfl rfl ⟨rfl, rfl, Nat.le_of_ble_eq_true rfl, Nat.le_of_ble_eq_true rfl⟩ rfl rfl (Nat.le_of_ble_eq_true rfl) dX5_makeChain_158 (fun σ9 H locs h hw hS => ?_)
    refine lv_iconst (v := (0 : Int32)) hx hb dX5_makeChain_161 (by decide) ?_
    refine lv_istore_n (lv' := [(3, .int (0 : Int32)), (0, .ref (g.1 5000)), (1, .int x1), (2, .int i2)]) hx hb dX5_makeChain_162 rfl hl (by decide) rfl (fun ls hl => ?_)
    obtain ⟨n9, h⟩ := h
    exact wX5_makeChain_163 hg X hr hN65 n9 i2 (0 : Int32) _ h H locs ls hw hS (lv_sub hl [1, 2, 3, 0] rfl)
def wbX5_makeChain_65 (x1 : Int32) (Q : RS → Prop) (N65 : Int32 → RS → Prop) (i2 : Int32) (σ : RS) : Prop :=
  (i2 = 0 →
    Q σ) ∧
  (¬ i2 = 0 →
    vp_in (((8 : Int32) + (rK σ 4)) - (1 : Int32)) 24 ∧ (
    ((rD σ (((8 : Int32) + (rK σ 4)) - (1 : Int32)).toNatClampNeg) ≤ 0 →
      Q σ) ∧
    (¬ (rD σ (((8 : Int32) + (rK σ 4)) - (1 : Int32)).toNatClampNeg) ≤ 0 →
      wpX5_copyAll (((8 : Int32) + (rK σ 4)) - (2 : Int32)) (18 : Int32) σ (fun (σ11 : RS) =>
        wpX5_copyAll (((8 : Int32) + (rK σ11 4)) - (1 : Int32)) (19 : Int32) σ11 (fun (σ13 : RS) =>
          wpX5_remain (1 : Int32) σ13 (fun (σ15 : RS) =>
            vp_in (20 : Int32) 24 ∧ (
            ((rD σ15 (20 : Int32).toNatClampNeg) < 0 →
              wpX5_makeChain_137 x1 Q N65 (0 : Int32) σ15) ∧
            (¬ (rD σ15 (20 : Int32).toNatClampNeg) < 0 →
              wpX5_makeChain_137 x1 Q N65 (1 : Int32) σ15))))))))
set_option maxRecDepth 100000 in
set_option maxHeartbeats 4000000 in
theorem wX5_makeChain_65 {p : Program} {l : Launch} {e : Env} {s : State} {m : MethodId} {args : Array Value} {below : List Frame} {meth : Method} {c : Code} {D : va_G} {A : Nat → Prop} {g : mG} (hg : inj g) {x1 : Int32} (X : cx p m meth c s args cX5_makeChain 4 RX5 D (tyG g)) (hr : meth.sig.returnType = none) {Q : RS → Prop} : ∀ (n : Nat) (i2 : Int32) (σ : RS), lq2 (wbX5_makeChain_65 x1 Q) n i2 σ → cW p l e rmX5_makeChain s m args below meth c (MQ below (va_Qv Q (fun u t => wd D A (rT g u) t.heap) A) args s 0 0 A) D A (rT g σ) 65 4 [(0, .ref (g.1 5000)), (1, .int x1), (2, .int i2)] := by
  obtain ⟨hx, hb, hml, hown, hts, hK, hlk⟩ := id X
  intro n
  induction n with
  | zero =>
    intro i2 σ h
    exact h.elim
  | succ n hN65 =>
    intro i2 σ h H locs ls hw hS hl
    replace h : wbX5_makeChain_65 x1 Q (lq2 (wbX5_makeChain_65 x1 Q) n) i2 σ := h
    unfold wbX5_makeChain_65 at h
    refine lv_iload_n hx hb dX5_makeChain_65 rfl (lv_at hl 2 rfl) ?_
    refine lv_if_eq (tgt := 216) hx hb dX5_makeChain_66 (by decide) (fun hc => ?_) (fun hc => ?_)
    · replace h := h.1 hc
      exact m_vret X hr hw hS h dX5_makeChain_216
    · replace h := h.2 hc
      refine lv_aload_n hx hb dX5_makeChain_69 rfl (lv_at hl 0 rfl) ?_
      refine m_get (v := .ref (g.1 5004)) X hw qM rfl inA_X5 3 (by decide) mw_80 rfl dX5_makeChain_70 ?_
      refine lv_bipush (v := (8 : Int32)) hx hb dX5_makeChain_73 (by decide) ?_
      refine lv_aload_n hx hb dX5_makeChain_75 rfl (lv_at hl 0 rfl) ?_
      refine m_get (v := .int (rK σ 4)) X hw qM rfl inA_X5 9 (by decide) mw_548 rfl dX5_makeChain_76 ?_
      refine lv_iadd hx hb dX5_makeChain_79 ?_
      refine lv_iconst (v := (1 : Int32)) hx hb dX5_makeChain_80 (by decide) ?_
      refine lv_isub hx hb dX5_makeChain_81 ?_
      obtain ⟨hi, h⟩ := h
      refine m_iald X hw qD 0 rfl hi dX5_makeChain_82 ?_
      refine lv_if_le (tgt := 216) hx hb dX5_makeChain_83 (by decide) (fun hc => ?_) (fun hc => ?_)
      · replace h := h.1 hc
        exact m_vret X hr hw hS h dX5_makeChain_216
      · replace h := h.2 hc
        refine lv_aload_n hx hb dX5_makeChain_86 rfl (lv_at hl 0 rfl) ?_
        refine lv_bipush (v := (8 : Int32)) hx hb dX5_makeChain_87 (by decide) ?_
        refine lv_aload_n hx hb dX5_makeChain_89 rfl (lv_at hl 0 rfl) ?_
        refine m_get (v := .int (rK σ 4)) X hw qM rfl inA_X5 9 (by decide) mw_548 rfl dX5_makeChain_90 ?_
        refine lv_iadd hx hb dX5_makeChain_93 ?_
        refine lv_iconst (v := (2 : Int32)) hx hb dX5_makeChain_94 (by decide) ?_
        refine lv_isub hx hb dX5_makeChain_95 ?_
        refine lv_bipush (v := (18 : Int32)) hx hb dX5_makeChain_96 (by decide) ?_
        refine m_cVv (TT := rT g) (As := [.int (((8 : Int32) + (rK σ 4)) - (2 : Int32)), .int (18 : Int32)]) (rest := []) X hl.1 hw hS (kX5_copyAll hg h) mw_239 fX5_copyAll qM rfl rfl ⟨rfl, rfl, Nat.le_of_ble_eq_true rfl, Nat.le_of_ble_eq_true rfl⟩ rfl rfl (Nat.le_of_ble_eq_true rfl) dX5_makeChain_98 (fun σ11 H locs h hw hS => ?_)
        refine lv_aload_n hx hb dX5_makeChain_101 rfl (lv_at hl 0 rfl) ?_
        refine lv_bipush (v := (8 : Int32)) hx hb dX5_makeChain_102 (by decide) ?_
        refine lv_aload_n hx hb dX5_makeChain_104 rfl (lv_at hl 0 rfl) ?_
        refine m_get (v := .int (rK σ11 4)) X hw qM rfl inA_X5 9 (by decide) mw_548 rfl dX5_makeChain_105 ?_
        refine lv_iadd hx hb dX5_makeChain_108 ?_
        refine lv_iconst (v := (1 : Int32)) hx hb dX5_makeChain_109 (by decide) ?_
        refine lv_isub hx hb dX5_makeChain_110 ?_
        refine lv_bipush (v := (19 : Int32)) hx hb dX5_makeChain_111 (by decide) ?_
        refine m_cVv (TT := rT g) (As := [.int (((8 : Int32) + (rK σ11 4)) - (1 : Int32)), .int (19 : Int32)]) (rest := []) X hl.1 hw hS (kX5_copyAll hg h) mw_239 fX5_copyAll qM rfl rfl ⟨rfl, rfl, Nat.le_of_ble_eq_true rfl, Nat.le_of_ble_eq_true rfl⟩ rfl rfl (Nat.le_of_ble_eq_true rfl) dX5_makeChain_113 (fun σ13 H locs h hw hS => ?_)
        refine lv_aload_n hx hb dX5_makeChain_116 rfl (lv_at hl 0 rfl) ?_
        refine lv_iconst (v := (1 : Int32)) hx hb dX5_makeChain_117 (by decide) ?_
        refine m_cVv (TT := rT g) (As := [.int (1 : Int32)]) (rest := []) X hl.1 hw hS (kX5_remain hg h) mw_344 fX5_remain qM rfl rfl ⟨rfl, rfl, Nat.le_of_ble_eq_true rfl, Nat.le_of_ble_eq_true rfl⟩ rfl rfl (Nat.le_of_ble_eq_true rfl) dX5_makeChain_118 (fun σ15 H locs h hw hS => ?_)
        refine lv_aload_n hx hb dX5_makeChain_121 rfl (lv_at hl 0 rfl) ?_
        refine m_get (v := .ref (g.1 5004)) X hw qM rfl inA_X5 3 (by decide) mw_80 rfl dX5_makeChain_122 ?_
        refine lv_bipush (v := (20 : Int32)) hx hb dX5_makeChain_125 (by decide) ?_
        obtain ⟨hi, h⟩ := h
        refine m_iald X hw qD 0 rfl hi dX5_makeChain_127 ?_
        refine lv_if_lt (tgt := 135) hx hb dX5_makeChain_128 (by decide) (fun hc => ?_) (fun hc => ?_)
        · replace h := h.1 hc
          refine lv_iconst (v := (0 : Int32)) hx hb dX5_makeChain_135 (by decide) ?_
          refine lv_istore_n (lv' := [(2, .int (0 : Int32)), (0, .ref (g.1 5000)), (1, .int x1)]) hx hb dX5_makeChain_136 rfl hl (by decide) rfl (fun ls hl => ?_)
          exact wX5_makeChain_137 hg X hr hN65 (0 : Int32) _ h H locs ls hw hS (lv_sub hl [1, 2, 0] rfl)
        · replace h := h.2 hc
          refine lv_iconst (v := (1 : Int32)) hx hb dX5_makeChain_131 (by decide) ?_
          refine lv_goto (tgt := 136) hx hb dX5_makeChain_132 (by decide) ?_
          refine lv_istore_n (lv' := [(2, .int (1 : Int32)), (0, .ref (g.1 5000)), (1, .int x1)]) hx hb dX5_makeChain_136 rfl hl (by decide) rfl (fun ls hl => ?_)
          exact wX5_makeChain_137 hg X hr hN65 (1 : Int32) _ h H locs ls hw hS (lv_sub hl [1, 2, 0] rfl)
def wpX5_makeChain_54 (x1 : Int32) (Q : RS → Prop) (i2 : Int32) (σ : RS) : Prop :=
  (i2 = 0 →
    ∃ n, lq2 (wbX5_makeChain_65 x1 Q) n i2 σ) ∧
  (¬ i2 = 0 →
    wpX5_makePrimitive (9 : Int32) (1 : Int32) σ (fun (σ17 : RS) =>
      ∃ n, lq2 (wbX5_makeChain_65 x1 Q) n i2 σ17))
set_option maxRecDepth 100000 in
set_option maxHeartbeats 4000000 in
theorem wX5_makeChain_54 {p : Program} {l : Launch} {e : Env} {s : State} {m : MethodId} {args : Array Value} {below : List Frame} {meth : Method} {c : Code} {D : va_G} {A : Nat → Prop} {g : mG} (hg : inj g) {x1 : Int32} (X : cx p m meth c s args cX5_makeChain 4 RX5 D (tyG g)) (hr : meth.sig.returnType = none) {Q : RS → Prop} : ∀ (i2 : Int32) (σ : RS), wpX5_makeChain_54 x1 Q i2 σ → cW p l e rmX5_makeChain s m args below meth c (MQ below (va_Qv Q (fun u t => wd D A (rT g u) t.heap) A) args s 0 0 A) D A (rT g σ) 54 4 [(0, .ref (g.1 5000)), (1, .int x1), (2, .int i2)] := by
  obtain ⟨hx, hb, hml, hown, hts, hK, hlk⟩ := id X
  intro i2 σ h H locs ls hw hS hl
  unfold wpX5_makeChain_54 at h
  refine lv_iload_n hx hb dX5_makeChain_54 rfl (lv_at hl 2 rfl) ?_
  refine lv_if_eq (tgt := 65) hx hb dX5_makeChain_55 (by decide) (fun hc => ?_) (fun hc => ?_)
  · replace h := h.1 hc
    obtain ⟨n9, h⟩ := h
    exact wX5_makeChain_65 hg X hr n9 i2 _ h H locs ls hw hS (lv_sub hl [0, 1, 2] rfl)
  · replace h := h.2 hc
    refine lv_aload_n hx hb dX5_makeChain_58 rfl (lv_at hl 0 rfl) ?_
    refine lv_bipush (v := (9 : Int32)) hx hb dX5_makeChain_59 (by decide) ?_
    refine lv_iconst (v := (1 : Int32)) hx hb dX5_makeChain_61 (by decide) ?_
    refine m_cVv (TT := rT g) (As := [.int (9 : Int32), .int (1 : Int32)]) (rest := []) X hl.1 hw hS (kX5_makePrimitive hg h) mw_472 fX5_makePrimitive qM rfl rfl ⟨rfl, rfl, Nat.le_of_ble_eq_true rfl, Nat.le_of_ble_eq_true rfl⟩ rfl rfl (Nat.le_of_ble_eq_true rfl) dX5_makeChain_62 (fun σ17 H locs h hw hS => ?_)
    obtain ⟨n9, h⟩ := h
    exact wX5_makeChain_65 hg X hr n9 i2 _ h H locs ls hw hS (lv_sub hl [0, 1, 2] rfl)
def wpX5_makeChain_40 (x1 : Int32) (Q : RS → Prop) (σ : RS) : Prop :=
  (¬ (rK σ 4) = (2 : Int32) →
    wpX5_makeChain_54 x1 Q (0 : Int32) σ) ∧
  ((rK σ 4) = (2 : Int32) →
    wpX5_makeChain_54 x1 Q (1 : Int32) σ)
set_option maxRecDepth 100000 in
set_option maxHeartbeats 4000000 in
theorem wX5_makeChain_40 {p : Program} {l : Launch} {e : Env} {s : State} {m : MethodId} {args : Array Value} {below : List Frame} {meth : Method} {c : Code} {D : va_G} {A : Nat → Prop} {g : mG} (hg : inj g) {x1 : Int32} (X : cx p m meth c s args cX5_makeChain 4 RX5 D (tyG g)) (hr : meth.sig.returnType = none) {Q : RS → Prop} : ∀ (σ : RS), wpX5_makeChain_40 x1 Q σ → cW p l e rmX5_makeChain s m args below meth c (MQ below (va_Qv Q (fun u t => wd D A (rT g u) t.heap) A) args s 0 0 A) D A (rT g σ) 40 4 [(0, .ref (g.1 5000)), (1, .int x1)] := by
  obtain ⟨hx, hb, hml, hown, hts, hK, hlk⟩ := id X
  intro σ h H locs ls hw hS hl
  unfold wpX5_makeChain_40 at h
  refine lv_aload_n hx hb dX5_makeChain_40 rfl (lv_at hl 0 rfl) ?_
  refine m_get (v := .int (rK σ 4)) X hw qM rfl inA_X5 9 (by decide) mw_548 rfl dX5_makeChain_41 ?_
  refine lv_iconst (v := (2 : Int32)) hx hb dX5_makeChain_44 (by decide) ?_
  refine lv_icmp_ne (tgt := 52) hx hb dX5_makeChain_45 (by decide) (fun hc => ?_) (fun hc => ?_)
  · replace h := h.1 hc
    refine lv_iconst (v := (0 : Int32)) hx hb dX5_makeChain_52 (by decide) ?_
    refine lv_istore_n (lv' := [(2, .int (0 : Int32)), (0, .ref (g.1 5000)), (1, .int x1)]) hx hb dX5_makeChain_53 rfl hl (by decide) rfl (fun ls hl => ?_)
    exact wX5_makeChain_54 hg X hr (0 : Int32) _ h H locs ls hw hS (lv_sub hl [1, 2, 0] rfl)
  · replace h := h.2 hc
    refine lv_iconst (v := (1 : Int32)) hx hb dX5_makeChain_48 (by decide) ?_
    refine lv_goto (tgt := 53) hx hb dX5_makeChain_49 (by decide) ?_
    refine lv_istore_n (lv' := [(2, .int (1 : Int32)), (0, .ref (g.1 5000)), (1, .int x1)]) hx hb dX5_makeChain_53 rfl hl (by decide) rfl (fun ls hl => ?_)
    exact wX5_makeChain_54 hg X hr (1 : Int32) _ h H locs ls hw hS (lv_sub hl [1, 2, 0] rfl)
def wpX5_makeChain_0 (x1 : Int32) (Q : RS → Prop) (σ : RS) : Prop :=
  wpX5_onceOf x1 σ (fun (σ19 : RS) =>
    wpX5_copyAll (21 : Int32) (8 : Int32) σ19 (fun (σ21 : RS) =>
      wpX5_deriveTo (8 : Int32) (9 : Int32) σ21 (fun (σ23 : RS) =>
        vp_in (9 : Int32) 24 ∧ (
        (0 ≤ (rD σ23 (9 : Int32).toNatClampNeg) →
          wpX5_makeChain_40 x1 Q (wK σ23 4 (2 : Int32))) ∧
        (¬ 0 ≤ (rD σ23 (9 : Int32).toNatClampNeg) →
          wpX5_makeChain_40 x1 Q (wK σ23 4 (1 : Int32)))))))
set_option maxRecDepth 100000 in
set_option maxHeartbeats 4000000 in
theorem wX5_makeChain_0 {p : Program} {l : Launch} {e : Env} {s : State} {m : MethodId} {args : Array Value} {below : List Frame} {meth : Method} {c : Code} {D : va_G} {A : Nat → Prop} {g : mG} (hg : inj g) {x1 : Int32} (X : cx p m meth c s args cX5_makeChain 4 RX5 D (tyG g)) (hr : meth.sig.returnType = none) {Q : RS → Prop} : ∀ (σ : RS), wpX5_makeChain_0 x1 Q σ → cW p l e rmX5_makeChain s m args below meth c (MQ below (va_Qv Q (fun u t => wd D A (rT g u) t.heap) A) args s 0 0 A) D A (rT g σ) 0 4 [(0, .ref (g.1 5000)), (1, .int x1)] := by
  obtain ⟨hx, hb, hml, hown, hts, hK, hlk⟩ := id X
  intro σ h H locs ls hw hS hl
  unfold wpX5_makeChain_0 at h
  refine lv_aload_n hx hb dX5_makeChain_0 rfl (lv_at hl 0 rfl) ?_
  refine lv_iload_n hx hb dX5_makeChain_1 rfl (lv_at hl 1 rfl) ?_
  refine m_cVv (TT := rT g) (As := [.int x1]) (rest := []) X hl.1 hw hS (kX5_onceOf hg h) mw_498 fX5_onceOf qM rfl rfl ⟨rfl, rfl, Nat.le_of_ble_eq_true rfl, Nat.le_of_ble_eq_true rfl⟩ rfl rfl (Nat.le_of_ble_eq_true rfl) dX5_makeChain_2 (fun σ19 H locs h hw hS => ?_)
  refine lv_aload_n hx hb dX5_makeChain_5 rfl (lv_at hl 0 rfl) ?_
  refine lv_bipush (v := (21 : Int32)) hx hb dX5_makeChain_6 (by decide) ?_
  refine lv_bipush (v := (8 : Int32)) hx hb dX5_makeChain_8 (by decide) ?_
  refine m_cVv (TT := rT g) (As := [.int (21 : Int32), .int (8 : Int32)]) (rest := []) X hl.1 hw hS (kX5_copyAll hg h) mw_239 fX5_copyAll qM rfl rfl ⟨rfl, rfl, Nat.le_of_ble_eq_true rfl, Nat.le_of_ble_eq_true rfl⟩ rfl rfl (Nat.le_of_ble_eq_true rfl) dX5_makeChain_10 (fun σ21 H locs h hw hS => ?_)
  refine lv_aload_n hx hb dX5_makeChain_13 rfl (lv_at hl 0 rfl) ?_
  refine lv_bipush (v := (8 : Int32)) hx hb dX5_makeChain_14 (by decide) ?_
  refine lv_bipush (v := (9 : Int32)) hx hb dX5_makeChain_16 (by decide) ?_
  refine m_cVv (TT := rT g) (As := [.int (8 : Int32), .int (9 : Int32)]) (rest := []) X hl.1 hw hS (kX5_deriveTo hg h) mw_296 fX5_deriveTo qM rfl rfl ⟨rfl, rfl, Nat.le_of_ble_eq_true rfl, Nat.le_of_ble_eq_true rfl⟩ rfl rfl (Nat.le_of_ble_eq_true rfl) dX5_makeChain_18 (fun σ23 H locs h hw hS => ?_)
  refine lv_aload_n hx hb dX5_makeChain_21 rfl (lv_at hl 0 rfl) ?_
  refine lv_aload_n hx hb dX5_makeChain_22 rfl (lv_at hl 0 rfl) ?_
  refine m_get (v := .ref (g.1 5004)) X hw qM rfl inA_X5 3 (by decide) mw_80 rfl dX5_makeChain_23 ?_
  refine lv_bipush (v := (9 : Int32)) hx hb dX5_makeChain_26 (by decide) ?_
  obtain ⟨hi, h⟩ := h
  refine m_iald X hw qD 0 rfl hi dX5_makeChain_28 ?_
  refine lv_if_ge (tgt := 36) hx hb dX5_makeChain_29 (by decide) (fun hc => ?_) (fun hc => ?_)
  · replace h := h.1 hc
    refine lv_iconst (v := (2 : Int32)) hx hb dX5_makeChain_36 (by decide) ?_
    refine m_put (T' := rT g (wK σ23 4 (2 : Int32))) X hw hS qM rfl inA_X5 tyX5 tyX5_ok nmX5 9 (by decide) mw_548 rfl pd_I (Nat.le_of_ble_eq_true rfl) (vK4 hg) dX5_makeChain_37 (fun H locs hw hS => ?_)
    exact wX5_makeChain_40 hg X hr _ h H locs ls hw hS (lv_sub hl [0, 1] rfl)
  · replace h := h.2 hc
    refine lv_iconst (v := (1 : Int32)) hx hb dX5_makeChain_32 (by decide) ?_
    refine lv_goto (tgt := 37) hx hb dX5_makeChain_33 (by decide) ?_
    refine m_put (T' := rT g (wK σ23 4 (1 : Int32))) X hw hS qM rfl inA_X5 tyX5 tyX5_ok nmX5 9 (by decide) mw_548 rfl pd_I (Nat.le_of_ble_eq_true rfl) (vK4 hg) dX5_makeChain_37 (fun H locs hw hS => ?_)
    exact wX5_makeChain_40 hg X hr _ h H locs ls hw hS (lv_sub hl [0, 1] rfl)
def wpX5_makeChain (x1 : Int32) (σ : RS) (Q : RS → Prop) : Prop := wpX5_makeChain_0 x1 Q σ
theorem kX5_makeChain {l : Launch} {D : va_G} {A : Nat → Prop} {g : mG} (hg : inj g) {x1 : Int32} {σ : RS} {Q : RS → Prop} (h : wpX5_makeChain x1 σ Q) : Met l yX5_makeChain (Cond.code yX5_makeChain cX5_makeChain 4 none :: wsA) rmX5_makeChain (mPc D (tyG g) A (rT g σ) [.ref (g.1 5000), .int x1]) (va_Qv Q (fun u t => wd D A (rT g u) t.heap) A) 0 0 A :=
  m_met (by decide +kernel) (Nat.le_of_ble_eq_true rfl) (fun p e s m below meth c X hr H locs ls hw hS hl => wX5_makeChain_0 hg X hr σ h H locs ls hw hS (lv_sub hl [0, 1] rfl))
theorem fX5_makeChain : vfit yX5_makeChain cX5_makeChain 4 none 1 := ⟨mw_545, mw_546, mw_5, mw_547, by decide +kernel, by decide +kernel, by decide +kernel⟩
/-! BigPolysModel.changes(J)I -/
def rmX5_changes : Room := { frames := 3, cells := 0, slots := 0, locals := 85 }
def wpX5_changes_67 (y1 : Int64) (Q : Int32 → RS → Prop) (N8 : Int32 → Int32 → Int32 → RS → Prop) (i3 : Int32) (i4 : Int32) (i5 : Int32) (σ : RS) : Prop :=
  ∀ a1 : Int32, a1 = i5 + (1 : Int32) →
  N8 i3 i4 a1 σ
set_option maxRecDepth 100000 in
set_option maxHeartbeats 4000000 in
theorem wX5_changes_67 {p : Program} {l : Launch} {e : Env} {s : State} {m : MethodId} {args : Array Value} {below : List Frame} {meth : Method} {c : Code} {D : va_G} {A : Nat → Prop} {g : mG} (hg : inj g) {y1 : Int64} (X : cx p m meth c s args cX5_changes 7 RX5 D (tyG g)) (hr : meth.sig.returnType = (some .int)) {Q : Int32 → RS → Prop} {N8 : Int32 → Int32 → Int32 → RS → Prop} (hN8 : ∀ (i3 : Int32) (i4 : Int32) (i5 : Int32) (σ : RS), N8 i3 i4 i5 σ → cW p l e rmX5_changes s m args below meth c (MQ below (va_Qi Q (fun u t => wd D A (rT g u) t.heap) A) args s 0 0 A) D A (rT g σ) 8 7 [(0, .ref (g.1 5000)), (1, .long y1), (3, .int i3), (4, .int i4), (5, .int i5)]) : ∀ (i3 : Int32) (i4 : Int32) (i5 : Int32) (σ : RS), wpX5_changes_67 y1 Q N8 i3 i4 i5 σ → cW p l e rmX5_changes s m args below meth c (MQ below (va_Qi Q (fun u t => wd D A (rT g u) t.heap) A) args s 0 0 A) D A (rT g σ) 67 7 [(0, .ref (g.1 5000)), (1, .long y1), (3, .int i3), (4, .int i4), (5, .int i5)] := by
  obtain ⟨hx, hb, hml, hown, hts, hK, hlk⟩ := id X
  intro i3 i4 i5 σ h H locs ls hw hS hl
  unfold wpX5_changes_67 at h
  obtain ⟨a1, ea1⟩ : ∃ z : Int32, z = i5 + (1 : Int32) := ⟨_, rfl⟩
  replace h := h a1 ea1
  refine lv_iinc (v := a1) (lv' := [(5, .int a1), (0, .ref (g.1 5000)), (1, .long y1), (3, .int i3), (4, .int i4)]) hx hb dX5_changes_67 hl (k := 4) rfl (by rw [ea1]; rfl) (by decide) rfl (fun ls hl => ?_)
  refine lv_goto (tgt := 8) hx hb dX5_changes_70 (by decide) ?_
  exact hN8 i3 i4 a1 _ h H locs ls hw hS (lv_sub hl [1, 2, 3, 4, 0] rfl)
def wpX5_changes_55 (y1 : Int64) (Q : Int32 → RS → Prop) (N8 : Int32 → Int32 → Int32 → RS → Prop) (i3 : Int32) (i4 : Int32) (i5 : Int32) (i6 : Int32) (σ : RS) : Prop :=
  (¬ i6 = 0 →
    wpX5_changes_67 y1 Q N8 i6 i4 i5 σ) ∧
  (i6 = 0 →
    wpX5_changes_67 y1 Q N8 i3 i4 i5 σ)
set_option maxRecDepth 100000 in
set_option maxHeartbeats 4000000 in
theorem wX5_changes_55 {p : Program} {l : Launch} {e : Env} {s : State} {m : MethodId} {args : Array Value} {below : List Frame} {meth : Method} {c : Code} {D : va_G} {A : Nat → Prop} {g : mG} (hg : inj g) {y1 : Int64} (X : cx p m meth c s args cX5_changes 7 RX5 D (tyG g)) (hr : meth.sig.returnType = (some .int)) {Q : Int32 → RS → Prop} {N8 : Int32 → Int32 → Int32 → RS → Prop} (hN8 : ∀ (i3 : Int32) (i4 : Int32) (i5 : Int32) (σ : RS), N8 i3 i4 i5 σ → cW p l e rmX5_changes s m args below meth c (MQ below (va_Qi Q (fun u t => wd D A (rT g u) t.heap) A) args s 0 0 A) D A (rT g σ) 8 7 [(0, .ref (g.1 5000)), (1, .long y1), (3, .int i3), (4, .int i4), (5, .int i5)]) : ∀ (i3 : Int32) (i4 : Int32) (i5 : Int32) (i6 : Int32) (σ : RS), wpX5_changes_55 y1 Q N8 i3 i4 i5 i6 σ → cW p l e rmX5_changes s m args below meth c (MQ below (va_Qi Q (fun u t => wd D A (rT g u) t.heap) A) args s 0 0 A) D A (rT g σ) 55 7 [(0, .ref (g.1 5000)), (1, .long y1), (3, .int i3), (4, .int i4), (5, .int i5), (6, .int i6)] := by
  obtain ⟨hx, hb, hml, hown, hts, hK, hlk⟩ := id X
  intro i3 i4 i5 i6 σ h H locs ls hw hS hl
  unfold wpX5_changes_55 at h
  refine lv_iload hx hb dX5_changes_55 (lv_at hl 5 rfl) ?_
  refine lv_if_ne (tgt := 64) hx hb dX5_changes_57 (by decide) (fun hc => ?_) (fun hc => ?_)
  · replace h := h.1 hc
    refine lv_iload hx hb dX5_changes_64 (lv_at hl 5 rfl) ?_
    refine lv_istore_n (lv' := [(3, .int i6), (0, .ref (g.1 5000)), (1, .long y1), (4, .int i4), (5, .int i5), (6, .int i6)]) hx hb dX5_changes_66 rfl hl (by decide) rfl (fun ls hl => ?_)
    exact wX5_changes_67 hg X hr hN8 i6 i4 i5 _ h H locs ls hw hS (lv_sub hl [1, 2, 0, 3, 4] rfl)
  · replace h := h.2 hc
    refine lv_iload_n hx hb dX5_changes_60 rfl (lv_at hl 2 rfl) ?_
    refine lv_goto (tgt := 66) hx hb dX5_changes_61 (by decide) ?_
    refine lv_istore_n (lv' := [(3, .int i3), (0, .ref (g.1 5000)), (1, .long y1), (4, .int i4), (5, .int i5), (6, .int i6)]) hx hb dX5_changes_66 rfl hl (by decide) rfl (fun ls hl => ?_)
    exact wX5_changes_67 hg X hr hN8 i3 i4 i5 _ h H locs ls hw hS (lv_sub hl [1, 2, 0, 3, 4] rfl)
def wbX5_changes_8 (y1 : Int64) (Q : Int32 → RS → Prop) (N8 : Int32 → Int32 → Int32 → RS → Prop) (i3 : Int32) (i4 : Int32) (i5 : Int32) (σ : RS) : Prop :=
  ((rK σ 4) ≤ i5 →
    Q i4 σ) ∧
  (¬ (rK σ 4) ≤ i5 →
    wpX5_signAt ((8 : Int32) + i5) y1 (1 : Int64) σ (fun (r2 : Int32) (σ3 : RS) =>
      (r2 = 0 →
        ∀ a4 : Int32, a4 = i4 + (0 : Int32) →
        wpX5_changes_55 y1 Q N8 i3 a4 i5 r2 σ3) ∧
      (¬ r2 = 0 →
        (i3 = 0 →
          ∀ a5 : Int32, a5 = i4 + (0 : Int32) →
          wpX5_changes_55 y1 Q N8 i3 a5 i5 r2 σ3) ∧
        (¬ i3 = 0 →
          (r2 = i3 →
            ∀ a6 : Int32, a6 = i4 + (0 : Int32) →
            wpX5_changes_55 y1 Q N8 i3 a6 i5 r2 σ3) ∧
          (¬ r2 = i3 →
            ∀ a7 : Int32, a7 = i4 + (1 : Int32) →
            wpX5_changes_55 y1 Q N8 i3 a7 i5 r2 σ3)))))
set_option maxRecDepth 100000 in
set_option maxHeartbeats 4000000 in
theorem wX5_changes_8 {p : Program} {l : Launch} {e : Env} {s : State} {m : MethodId} {args : Array Value} {below : List Frame} {meth : Method} {c : Code} {D : va_G} {A : Nat → Prop} {g : mG} (hg : inj g) {y1 : Int64} (X : cx p m meth c s args cX5_changes 7 RX5 D (tyG g)) (hr : meth.sig.returnType = (some .int)) {Q : Int32 → RS → Prop} : ∀ (n : Nat) (i3 : Int32) (i4 : Int32) (i5 : Int32) (σ : RS), lq4 (wbX5_changes_8 y1 Q) n i3 i4 i5 σ → cW p l e rmX5_changes s m args below meth c (MQ below (va_Qi Q (fun u t => wd D A (rT g u) t.heap) A) args s 0 0 A) D A (rT g σ) 8 7 [(0, .ref (g.1 5000)), (1, .long y1), (3, .int i3), (4, .int i4), (5, .int i5)] := by
  obtain ⟨hx, hb, hml, hown, hts, hK, hlk⟩ := id X
  intro n
  induction n with
  | zero =>
    intro i3 i4 i5 σ h
    exact h.elim
  | succ n hN8 =>
    intro i3 i4 i5 σ h H locs ls hw hS hl
    replace h : wbX5_changes_8 y1 Q (lq4 (wbX5_changes_8 y1 Q) n) i3 i4 i5 σ := h
    unfold wbX5_changes_8 at h
    refine lv_iload hx hb dX5_changes_8 (lv_at hl 4 rfl) ?_
    refine lv_aload_n hx hb dX5_changes_10 rfl (lv_at hl 0 rfl) ?_
    refine m_get (v := .int (rK σ 4)) X hw qM rfl inA_X5 9 (by decide) mw_548 rfl dX5_changes_11 ?_
    refine lv_icmp_ge (tgt := 73) hx hb dX5_changes_14 (by decide) (fun hc => ?_) (fun hc => ?_)
    · replace h := h.1 hc
      refine lv_iload hx hb dX5_changes_73 (lv_at hl 3 rfl) ?_
      exact m_iret X hr hw hS h dX5_changes_75
    · replace h := h.2 hc
      refine lv_aload_n hx hb dX5_changes_17 rfl (lv_at hl 0 rfl) ?_
      refine lv_bipush (v := (8 : Int32)) hx hb dX5_changes_18 (by decide) ?_
      refine lv_iload hx hb dX5_changes_20 (lv_at hl 4 rfl) ?_
      refine lv_iadd hx hb dX5_changes_22 ?_
      refine lv_lload_n hx hb dX5_changes_23 rfl (lv_at hl 1 rfl) ?_
      refine lv_lconst (v := (1 : Int64)) hx hb dX5_changes_24 (by decide) ?_
      refine m_cVi (TT := rT g) (As := [.int ((8 : Int32) + i5), .long y1, .long (1 : Int64)]) (rest := []) X hl.1 hw hS (kX5_signAt hg h) mw_518 fX5_signAt qM rfl rfl ⟨rfl, rfl, Nat.le_of_ble_eq_true rfl, Nat.le_of_ble_eq_true rfl⟩ rfl rfl (Nat.le_of_ble_eq_true rfl) dX5_changes_25 (fun r2 σ3 H locs h hw hS => ?_)
      refine lv_istore (lv' := [(6, .int r2), (0, .ref (g.1 5000)), (1, .long y1), (3, .int i3), (4, .int i4), (5, .int i5)]) hx hb dX5_changes_28 hl (by decide) rfl (fun ls hl => ?_)
      refine lv_iload hx hb dX5_changes_30 (lv_at hl 4 rfl) ?_
      refine lv_iload hx hb dX5_changes_32 (lv_at hl 0 rfl) ?_
      refine lv_if_eq (tgt := 51) hx hb dX5_changes_34 (by decide) (fun hc => ?_) (fun hc => ?_)
      · replace h := h.1 hc
        refine lv_iconst (v := (0 : Int32)) hx hb dX5_changes_51 (by decide) ?_
        refine lv_iadd hx hb dX5_changes_52 ?_
        refine lv_topi (fun a4 ea4 => ?_)
        replace h := h a4 ea4
        refine lv_istore (lv' := [(4, .int a4), (6, .int r2), (0, .ref (g.1 5000)), (1, .long y1), (3, .int i3), (5, .int i5)]) hx hb dX5_changes_53 hl (by decide) rfl (fun ls hl => ?_)
        exact wX5_changes_55 hg X hr hN8 i3 a4 i5 r2 _ h H locs ls hw hS (lv_sub hl [2, 3, 4, 0, 5, 1] rfl)
      · replace h := h.2 hc
        refine lv_iload_n hx hb dX5_changes_37 rfl (lv_at hl 3 rfl) ?_
        refine lv_if_eq (tgt := 51) hx hb dX5_changes_38 (by decide) (fun hc => ?_) (fun hc => ?_)
        · replace h := h.1 hc
          refine lv_iconst (v := (0 : Int32)) hx hb dX5_changes_51 (by decide) ?_
          refine lv_iadd hx hb dX5_changes_52 ?_
          refine lv_topi (fun a5 ea5 => ?_)
          replace h := h a5 ea5
          refine lv_istore (lv' := [(4, .int a5), (6, .int r2), (0, .ref (g.1 5000)), (1, .long y1), (3, .int i3), (5, .int i5)]) hx hb dX5_changes_53 hl (by decide) rfl (fun ls hl => ?_)
          exact wX5_changes_55 hg X hr hN8 i3 a5 i5 r2 _ h H locs ls hw hS (lv_sub hl [2, 3, 4, 0, 5, 1] rfl)
        · replace h := h.2 hc
          refine lv_iload hx hb dX5_changes_41 (lv_at hl 0 rfl) ?_
          refine lv_iload_n hx hb dX5_changes_43 rfl (lv_at hl 3 rfl) ?_
          refine lv_icmp_eq (tgt := 51) hx hb dX5_changes_44 (by decide) (fun hc => ?_) (fun hc => ?_)
          · replace h := h.1 hc
            refine lv_iconst (v := (0 : Int32)) hx hb dX5_changes_51 (by decide) ?_
            refine lv_iadd hx hb dX5_changes_52 ?_
            refine lv_topi (fun a6 ea6 => ?_)
            replace h := h a6 ea6
            refine lv_istore (lv' := [(4, .int a6), (6, .int r2), (0, .ref (g.1 5000)), (1, .long y1), (3, .int i3), (5, .int i5)]) hx hb dX5_changes_53 hl (by decide) rfl (fun ls hl => ?_)
            exact wX5_changes_55 hg X hr hN8 i3 a6 i5 r2 _ h H locs ls hw hS (lv_sub hl [2, 3, 4, 0, 5, 1] rfl)
          · replace h := h.2 hc
            refine lv_iconst (v := (1 : Int32)) hx hb dX5_changes_47 (by decide) ?_
            refine lv_goto (tgt := 52) hx hb dX5_changes_48 (by decide) ?_
            refine lv_iadd hx hb dX5_changes_52 ?_
            refine lv_topi (fun a7 ea7 => ?_)
            replace h := h a7 ea7
            refine lv_istore (lv' := [(4, .int a7), (6, .int r2), (0, .ref (g.1 5000)), (1, .long y1), (3, .int i3), (5, .int i5)]) hx hb dX5_changes_53 hl (by decide) rfl (fun ls hl => ?_)
            exact wX5_changes_55 hg X hr hN8 i3 a7 i5 r2 _ h H locs ls hw hS (lv_sub hl [2, 3, 4, 0, 5, 1] rfl)
def wpX5_changes_0 (y1 : Int64) (Q : Int32 → RS → Prop) (σ : RS) : Prop :=
  ∃ n, lq4 (wbX5_changes_8 y1 Q) n (0 : Int32) (0 : Int32) (0 : Int32) σ
set_option maxRecDepth 100000 in
set_option maxHeartbeats 4000000 in
theorem wX5_changes_0 {p : Program} {l : Launch} {e : Env} {s : State} {m : MethodId} {args : Array Value} {below : List Frame} {meth : Method} {c : Code} {D : va_G} {A : Nat → Prop} {g : mG} (hg : inj g) {y1 : Int64} (X : cx p m meth c s args cX5_changes 7 RX5 D (tyG g)) (hr : meth.sig.returnType = (some .int)) {Q : Int32 → RS → Prop} : ∀ (σ : RS), wpX5_changes_0 y1 Q σ → cW p l e rmX5_changes s m args below meth c (MQ below (va_Qi Q (fun u t => wd D A (rT g u) t.heap) A) args s 0 0 A) D A (rT g σ) 0 7 [(0, .ref (g.1 5000)), (1, .long y1)] := by
  obtain ⟨hx, hb, hml, hown, hts, hK, hlk⟩ := id X
  intro σ h H locs ls hw hS hl
  unfold wpX5_changes_0 at h
  refine lv_iconst (v := (0 : Int32)) hx hb dX5_changes_0 (by decide) ?_
  refine lv_istore_n (lv' := [(3, .int (0 : Int32)), (0, .ref (g.1 5000)), (1, .long y1)]) hx hb dX5_changes_1 rfl hl (by decide) rfl (fun ls hl => ?_)
  refine lv_iconst (v := (0 : Int32)) hx hb dX5_changes_2 (by decide) ?_
  refine lv_istore (lv' := [(4, .int (0 : Int32)), (3, .int (0 : Int32)), (0, .ref (g.1 5000)), (1, .long y1)]) hx hb dX5_changes_3 hl (by decide) rfl (fun ls hl => ?_)
  refine lv_iconst (v := (0 : Int32)) hx hb dX5_changes_5 (by decide) ?_
  refine lv_istore (lv' := [(5, .int (0 : Int32)), (4, .int (0 : Int32)), (3, .int (0 : Int32)), (0, .ref (g.1 5000)), (1, .long y1)]) hx hb dX5_changes_6 hl (by decide) rfl (fun ls hl => ?_)
  obtain ⟨n9, h⟩ := h
  exact wX5_changes_8 hg X hr n9 (0 : Int32) (0 : Int32) (0 : Int32) _ h H locs ls hw hS (lv_sub hl [3, 4, 2, 1, 0] rfl)
def wpX5_changes (y1 : Int64) (σ : RS) (Q : Int32 → RS → Prop) : Prop := wpX5_changes_0 y1 Q σ
theorem kX5_changes {l : Launch} {D : va_G} {A : Nat → Prop} {g : mG} (hg : inj g) {y1 : Int64} {σ : RS} {Q : Int32 → RS → Prop} (h : wpX5_changes y1 σ Q) : Met l yX5_changes (Cond.code yX5_changes cX5_changes 7 (some .int) :: wsA) rmX5_changes (mPc D (tyG g) A (rT g σ) [.ref (g.1 5000), .long y1]) (va_Qi Q (fun u t => wd D A (rT g u) t.heap) A) 0 0 A :=
  m_met (by decide +kernel) (Nat.le_of_ble_eq_true rfl) (fun p e s m below meth c X hr H locs ls hw hS hl => wX5_changes_0 hg X hr σ h H locs ls hw hS (lv_sub hl [0, 1] rfl))
theorem fX5_changes : vfit yX5_changes cX5_changes 7 (some .int) 1 := ⟨mw_550, mw_551, mw_5, mw_552, by decide +kernel, by decide +kernel, by decide +kernel⟩
/-! BigPolysModel.changesFar(Z)I -/
def rmX5_changesFar : Room := { frames := 1, cells := 0, slots := 0, locals := 21 }
def wpX5_changesFar_87 (x1 : Int32) (Q : Int32 → RS → Prop) (N7 : Int32 → Int32 → Int32 → RS → Prop) (i3 : Int32) (i4 : Int32) (i6 : Int32) (σ : RS) : Prop :=
  ∀ a1 : Int32, a1 = i4 + (1 : Int32) →
  N7 i6 i3 a1 σ
set_option maxRecDepth 100000 in
set_option maxHeartbeats 4000000 in
theorem wX5_changesFar_87 {p : Program} {l : Launch} {e : Env} {s : State} {m : MethodId} {args : Array Value} {below : List Frame} {meth : Method} {c : Code} {D : va_G} {A : Nat → Prop} {g : mG} (hg : inj g) {x1 : Int32} (X : cx p m meth c s args cX5_changesFar 7 RX5 D (tyG g)) (hr : meth.sig.returnType = (some .int)) {Q : Int32 → RS → Prop} {N7 : Int32 → Int32 → Int32 → RS → Prop} (hN7 : ∀ (i2 : Int32) (i3 : Int32) (i4 : Int32) (σ : RS), N7 i2 i3 i4 σ → cW p l e rmX5_changesFar s m args below meth c (MQ below (va_Qi Q (fun u t => wd D A (rT g u) t.heap) A) args s 0 0 A) D A (rT g σ) 7 7 [(0, .ref (g.1 5000)), (1, .int x1), (2, .int i2), (3, .int i3), (4, .int i4)]) : ∀ (i3 : Int32) (i4 : Int32) (i6 : Int32) (σ : RS), wpX5_changesFar_87 x1 Q N7 i3 i4 i6 σ → cW p l e rmX5_changesFar s m args below meth c (MQ below (va_Qi Q (fun u t => wd D A (rT g u) t.heap) A) args s 0 0 A) D A (rT g σ) 87 7 [(0, .ref (g.1 5000)), (1, .int x1), (3, .int i3), (4, .int i4), (6, .int i6)] := by
  obtain ⟨hx, hb, hml, hown, hts, hK, hlk⟩ := id X
  intro i3 i4 i6 σ h H locs ls hw hS hl
  unfold wpX5_changesFar_87 at h
  refine lv_iload hx hb dX5_changesFar_87 (lv_at hl 4 rfl) ?_
  refine lv_istore_n (lv' := [(2, .int i6), (0, .ref (g.1 5000)), (1, .int x1), (3, .int i3), (4, .int i4), (6, .int i6)]) hx hb dX5_changesFar_89 rfl hl (by decide) rfl (fun ls hl => ?_)
  obtain ⟨a1, ea1⟩ : ∃ z : Int32, z = i4 + (1 : Int32) := ⟨_, rfl⟩
  replace h := h a1 ea1
  refine lv_iinc (v := a1) (lv' := [(4, .int a1), (2, .int i6), (0, .ref (g.1 5000)), (1, .int x1), (3, .int i3), (6, .int i6)]) hx hb dX5_changesFar_90 hl (k := 4) rfl (by rw [ea1]; rfl) (by decide) rfl (fun ls hl => ?_)
  refine lv_goto (tgt := 7) hx hb dX5_changesFar_93 (by decide) ?_
  exact hN7 i6 i3 a1 _ h H locs ls hw hS (lv_sub hl [2, 3, 1, 4, 0] rfl)
def wpX5_changesFar_69 (x1 : Int32) (Q : Int32 → RS → Prop) (N7 : Int32 → Int32 → Int32 → RS → Prop) (i2 : Int32) (i3 : Int32) (i4 : Int32) (i6 : Int32) (σ : RS) : Prop :=
  (i2 = 0 →
    ∀ a2 : Int32, a2 = i3 + (0 : Int32) →
    wpX5_changesFar_87 x1 Q N7 a2 i4 i6 σ) ∧
  (¬ i2 = 0 →
    (i6 = i2 →
      ∀ a3 : Int32, a3 = i3 + (0 : Int32) →
      wpX5_changesFar_87 x1 Q N7 a3 i4 i6 σ) ∧
    (¬ i6 = i2 →
      ∀ a4 : Int32, a4 = i3 + (1 : Int32) →
      wpX5_changesFar_87 x1 Q N7 a4 i4 i6 σ))
set_option maxRecDepth 100000 in
set_option maxHeartbeats 4000000 in
theorem wX5_changesFar_69 {p : Program} {l : Launch} {e : Env} {s : State} {m : MethodId} {args : Array Value} {below : List Frame} {meth : Method} {c : Code} {D : va_G} {A : Nat → Prop} {g : mG} (hg : inj g) {x1 : Int32} (X : cx p m meth c s args cX5_changesFar 7 RX5 D (tyG g)) (hr : meth.sig.returnType = (some .int)) {Q : Int32 → RS → Prop} {N7 : Int32 → Int32 → Int32 → RS → Prop} (hN7 : ∀ (i2 : Int32) (i3 : Int32) (i4 : Int32) (σ : RS), N7 i2 i3 i4 σ → cW p l e rmX5_changesFar s m args below meth c (MQ below (va_Qi Q (fun u t => wd D A (rT g u) t.heap) A) args s 0 0 A) D A (rT g σ) 7 7 [(0, .ref (g.1 5000)), (1, .int x1), (2, .int i2), (3, .int i3), (4, .int i4)]) : ∀ (i2 : Int32) (i3 : Int32) (i4 : Int32) (i6 : Int32) (σ : RS), wpX5_changesFar_69 x1 Q N7 i2 i3 i4 i6 σ → cW p l e rmX5_changesFar s m args below meth c (MQ below (va_Qi Q (fun u t => wd D A (rT g u) t.heap) A) args s 0 0 A) D A (rT g σ) 69 7 [(0, .ref (g.1 5000)), (1, .int x1), (2, .int i2), (3, .int i3), (4, .int i4), (6, .int i6)] := by
  obtain ⟨hx, hb, hml, hown, hts, hK, hlk⟩ := id X
  intro i2 i3 i4 i6 σ h H locs ls hw hS hl
  unfold wpX5_changesFar_69 at h
  refine lv_iload_n hx hb dX5_changesFar_69 rfl (lv_at hl 3 rfl) ?_
  refine lv_iload_n hx hb dX5_changesFar_70 rfl (lv_at hl 2 rfl) ?_
  refine lv_if_eq (tgt := 84) hx hb dX5_changesFar_71 (by decide) (fun hc => ?_) (fun hc => ?_)
  · replace h := h.1 hc
    refine lv_iconst (v := (0 : Int32)) hx hb dX5_changesFar_84 (by decide) ?_
    refine lv_iadd hx hb dX5_changesFar_85 ?_
    refine lv_topi (fun a2 ea2 => ?_)
    replace h := h a2 ea2
    refine lv_istore_n (lv' := [(3, .int a2), (0, .ref (g.1 5000)), (1, .int x1), (2, .int i2), (4, .int i4), (6, .int i6)]) hx hb dX5_changesFar_86 rfl hl (by decide) rfl (fun ls hl => ?_)
    exact wX5_changesFar_87 hg X hr hN7 a2 i4 i6 _ h H locs ls hw hS (lv_sub hl [1, 2, 0, 4, 5] rfl)
  · replace h := h.2 hc
    refine lv_iload hx hb dX5_changesFar_74 (lv_at hl 5 rfl) ?_
    refine lv_iload_n hx hb dX5_changesFar_76 rfl (lv_at hl 2 rfl) ?_
    refine lv_icmp_eq (tgt := 84) hx hb dX5_changesFar_77 (by decide) (fun hc => ?_) (fun hc => ?_)
    · replace h := h.1 hc
      refine lv_iconst (v := (0 : Int32)) hx hb dX5_changesFar_84 (by decide) ?_
      refine lv_iadd hx hb dX5_changesFar_85 ?_
      refine lv_topi (fun a3 ea3 => ?_)
      replace h := h a3 ea3
      refine lv_istore_n (lv' := [(3, .int a3), (0, .ref (g.1 5000)), (1, .int x1), (2, .int i2), (4, .int i4), (6, .int i6)]) hx hb dX5_changesFar_86 rfl hl (by decide) rfl (fun ls hl => ?_)
      exact wX5_changesFar_87 hg X hr hN7 a3 i4 i6 _ h H locs ls hw hS (lv_sub hl [1, 2, 0, 4, 5] rfl)
    · replace h := h.2 hc
      refine lv_iconst (v := (1 : Int32)) hx hb dX5_changesFar_80 (by decide) ?_
      refine lv_goto (tgt := 85) hx hb dX5_changesFar_81 (by decide) ?_
      refine lv_iadd hx hb dX5_changesFar_85 ?_
      refine lv_topi (fun a4 ea4 => ?_)
      replace h := h a4 ea4
      refine lv_istore_n (lv' := [(3, .int a4), (0, .ref (g.1 5000)), (1, .int x1), (2, .int i2), (4, .int i4), (6, .int i6)]) hx hb dX5_changesFar_86 rfl hl (by decide) rfl (fun ls hl => ?_)
      exact wX5_changesFar_87 hg X hr hN7 a4 i4 i6 _ h H locs ls hw hS (lv_sub hl [1, 2, 0, 4, 5] rfl)
def wpX5_changesFar_65 (x1 : Int32) (Q : Int32 → RS → Prop) (N7 : Int32 → Int32 → Int32 → RS → Prop) (i2 : Int32) (i3 : Int32) (i4 : Int32) (i6 : Int32) (σ : RS) : Prop :=
  wpX5_changesFar_69 x1 Q N7 i2 i3 i4 i6 σ
set_option maxRecDepth 100000 in
set_option maxHeartbeats 4000000 in
theorem wX5_changesFar_65 {p : Program} {l : Launch} {e : Env} {s : State} {m : MethodId} {args : Array Value} {below : List Frame} {meth : Method} {c : Code} {D : va_G} {A : Nat → Prop} {g : mG} (hg : inj g) {x1 : Int32} (X : cx p m meth c s args cX5_changesFar 7 RX5 D (tyG g)) (hr : meth.sig.returnType = (some .int)) {Q : Int32 → RS → Prop} {N7 : Int32 → Int32 → Int32 → RS → Prop} (hN7 : ∀ (i2 : Int32) (i3 : Int32) (i4 : Int32) (σ : RS), N7 i2 i3 i4 σ → cW p l e rmX5_changesFar s m args below meth c (MQ below (va_Qi Q (fun u t => wd D A (rT g u) t.heap) A) args s 0 0 A) D A (rT g σ) 7 7 [(0, .ref (g.1 5000)), (1, .int x1), (2, .int i2), (3, .int i3), (4, .int i4)]) : ∀ (i2 : Int32) (i3 : Int32) (i4 : Int32) (i6 : Int32) (σ : RS), wpX5_changesFar_65 x1 Q N7 i2 i3 i4 i6 σ → cW p l e rmX5_changesFar s m args below meth c (MQ below (va_Qi Q (fun u t => wd D A (rT g u) t.heap) A) args s 0 0 A) D A (rT g σ) 65 7 [(0, .ref (g.1 5000)), (1, .int x1), (2, .int i2), (3, .int i3), (4, .int i4), (6, .int i6)] := by
  obtain ⟨hx, hb, hml, hown, hts, hK, hlk⟩ := id X
  intro i2 i3 i4 i6 σ h H locs ls hw hS hl
  unfold wpX5_changesFar_65 at h
  refine lv_iload hx hb dX5_changesFar_65 (lv_at hl 5 rfl) ?_
  refine lv_istore (lv' := [(6, .int i6), (0, .ref (g.1 5000)), (1, .int x1), (2, .int i2), (3, .int i3), (4, .int i4)]) hx hb dX5_changesFar_67 hl (by decide) rfl (fun ls hl => ?_)
  exact wX5_changesFar_69 hg X hr hN7 i2 i3 i4 i6 _ h H locs ls hw hS (lv_sub hl [1, 2, 3, 4, 5, 0] rfl)
def wbX5_changesFar_7 (x1 : Int32) (Q : Int32 → RS → Prop) (N7 : Int32 → Int32 → Int32 → RS → Prop) (i2 : Int32) (i3 : Int32) (i4 : Int32) (σ : RS) : Prop :=
  ((rK σ 4) ≤ i4 →
    Q i3 σ) ∧
  (¬ (rK σ 4) ≤ i4 →
    ∀ a5 : Int32, a5 = (8 : Int32) + i4 →
    vp_in a5 24 ∧ (
    wpX5_at a5 (rD σ a5.toNatClampNeg) σ (fun (r6 : Int32) (σ7 : RS) =>
      vp_in r6 227 ∧ (
      ∀ a8 : Int32, a8 = rG σ7 r6.toNatClampNeg →
      (¬ x1 = 0 →
        wpX5_changesFar_65 x1 Q N7 i2 i3 i4 a8 σ7) ∧
      (x1 = 0 →
        vp_in a5 24 ∧ (
        (¬ ((rD σ7 a5.toNatClampNeg) - (rD σ7 a5.toNatClampNeg) / (2 : Int32) * (2 : Int32)) = (1 : Int32) →
          wpX5_changesFar_65 x1 Q N7 i2 i3 i4 a8 σ7) ∧
        (((rD σ7 a5.toNatClampNeg) - (rD σ7 a5.toNatClampNeg) / (2 : Int32) * (2 : Int32)) = (1 : Int32) →
          ∀ a9 : Int32, a9 = -a8 →
          wpX5_changesFar_69 x1 Q N7 i2 i3 i4 a9 σ7)))))))
set_option maxRecDepth 100000 in
set_option maxHeartbeats 4000000 in
theorem wX5_changesFar_7 {p : Program} {l : Launch} {e : Env} {s : State} {m : MethodId} {args : Array Value} {below : List Frame} {meth : Method} {c : Code} {D : va_G} {A : Nat → Prop} {g : mG} (hg : inj g) {x1 : Int32} (X : cx p m meth c s args cX5_changesFar 7 RX5 D (tyG g)) (hr : meth.sig.returnType = (some .int)) {Q : Int32 → RS → Prop} : ∀ (n : Nat) (i2 : Int32) (i3 : Int32) (i4 : Int32) (σ : RS), lq4 (wbX5_changesFar_7 x1 Q) n i2 i3 i4 σ → cW p l e rmX5_changesFar s m args below meth c (MQ below (va_Qi Q (fun u t => wd D A (rT g u) t.heap) A) args s 0 0 A) D A (rT g σ) 7 7 [(0, .ref (g.1 5000)), (1, .int x1), (2, .int i2), (3, .int i3), (4, .int i4)] := by
  obtain ⟨hx, hb, hml, hown, hts, hK, hlk⟩ := id X
  intro n
  induction n with
  | zero =>
    intro i2 i3 i4 σ h
    exact h.elim
  | succ n hN7 =>
    intro i2 i3 i4 σ h H locs ls hw hS hl
    replace h : wbX5_changesFar_7 x1 Q (lq4 (wbX5_changesFar_7 x1 Q) n) i2 i3 i4 σ := h
    unfold wbX5_changesFar_7 at h
    refine lv_iload hx hb dX5_changesFar_7 (lv_at hl 4 rfl) ?_
    refine lv_aload_n hx hb dX5_changesFar_9 rfl (lv_at hl 0 rfl) ?_
    refine m_get (v := .int (rK σ 4)) X hw qM rfl inA_X5 9 (by decide) mw_548 rfl dX5_changesFar_10 ?_
    refine lv_icmp_ge (tgt := 96) hx hb dX5_changesFar_13 (by decide) (fun hc => ?_) (fun hc => ?_)
    · replace h := h.1 hc
      refine lv_iload_n hx hb dX5_changesFar_96 rfl (lv_at hl 3 rfl) ?_
      exact m_iret X hr hw hS h dX5_changesFar_97
    · replace h := h.2 hc
      refine lv_bipush (v := (8 : Int32)) hx hb dX5_changesFar_16 (by decide) ?_
      refine lv_iload hx hb dX5_changesFar_18 (lv_at hl 4 rfl) ?_
      refine lv_iadd hx hb dX5_changesFar_20 ?_
      refine lv_topi (fun a5 ea5 => ?_)
      replace h := h a5 ea5
      refine lv_istore (lv' := [(5, .int a5), (0, .ref (g.1 5000)), (1, .int x1), (2, .int i2), (3, .int i3), (4, .int i4)]) hx hb dX5_changesFar_21 hl (by decide) rfl (fun ls hl => ?_)
      refine lv_aload_n hx hb dX5_changesFar_23 rfl (lv_at hl 1 rfl) ?_
      refine m_get (v := .ref (g.1 5003)) X hw qM rfl inA_X5 2 (by decide) mw_79 rfl dX5_changesFar_24 ?_
      refine lv_iload hx hb dX5_changesFar_27 (lv_at hl 0 rfl) ?_
      refine lv_aload_n hx hb dX5_changesFar_29 rfl (lv_at hl 1 rfl) ?_
      refine m_get (v := .ref (g.1 5004)) X hw qM rfl inA_X5 3 (by decide) mw_80 rfl dX5_changesFar_30 ?_
      refine lv_iload hx hb dX5_changesFar_33 (lv_at hl 0 rfl) ?_
      obtain ⟨hi, h⟩ := h
      refine m_iald X hw qD 0 rfl hi dX5_changesFar_35 ?_
      refine m_cSi (TT := rT g) (As := [.int a5, .int (rD σ a5.toNatClampNeg)]) (rest := [.ref (g.1 5003)]) X hl.1 hw hS (kX5_at hg h) mw_119 fX5_at ⟨rfl, rfl, Nat.le_of_ble_eq_true rfl, Nat.le_of_ble_eq_true rfl⟩ rfl rfl (Nat.le_of_ble_eq_true rfl) dX5_changesFar_36 (fun r6 σ7 H locs h hw hS => ?_)
      obtain ⟨hi, h⟩ := h
      refine m_iald X hw qG 0 rfl hi dX5_changesFar_39 ?_
      refine lv_topi (fun a8 ea8 => ?_)
      replace h := h a8 ea8
      refine lv_istore (lv' := [(6, .int a8), (5, .int a5), (0, .ref (g.1 5000)), (1, .int x1), (2, .int i2), (3, .int i3), (4, .int i4)]) hx hb dX5_changesFar_40 hl (by decide) rfl (fun ls hl => ?_)
      refine lv_iload_n hx hb dX5_changesFar_42 rfl (lv_at hl 3 rfl) ?_
      refine lv_if_ne (tgt := 65) hx hb dX5_changesFar_43 (by decide) (fun hc => ?_) (fun hc => ?_)
      · replace h := h.1 hc
        exact wX5_changesFar_65 hg X hr hN7 i2 i3 i4 a8 _ h H locs ls hw hS (lv_sub hl [2, 3, 4, 5, 6, 0] rfl)
      · replace h := h.2 hc
        refine lv_aload_n hx hb dX5_changesFar_46 rfl (lv_at hl 2 rfl) ?_
        refine m_get (v := .ref (g.1 5004)) X hw qM rfl inA_X5 3 (by decide) mw_80 rfl dX5_changesFar_47 ?_
        refine lv_iload hx hb dX5_changesFar_50 (lv_at hl 1 rfl) ?_
        obtain ⟨hi, h⟩ := h
        refine m_iald X hw qD 0 rfl hi dX5_changesFar_52 ?_
        refine lv_iconst (v := (2 : Int32)) hx hb dX5_changesFar_53 (by decide) ?_
        refine lv_irem hx hb dX5_changesFar_54 (by decide) ?_
        refine lv_iconst (v := (1 : Int32)) hx hb dX5_changesFar_55 (by decide) ?_
        refine lv_icmp_ne (tgt := 65) hx hb dX5_changesFar_56 (by decide) (fun hc => ?_) (fun hc => ?_)
        · replace h := h.1 hc
          exact wX5_changesFar_65 hg X hr hN7 i2 i3 i4 a8 _ h H locs ls hw hS (lv_sub hl [2, 3, 4, 5, 6, 0] rfl)
        · replace h := h.2 hc
          refine lv_iload hx hb dX5_changesFar_59 (lv_at hl 0 rfl) ?_
          refine lv_ineg hx hb dX5_changesFar_61 ?_
          refine lv_goto (tgt := 67) hx hb dX5_changesFar_62 (by decide) ?_
          refine lv_topi (fun a9 ea9 => ?_)
          replace h := h a9 ea9
          refine lv_istore (lv' := [(6, .int a9), (5, .int a5), (0, .ref (g.1 5000)), (1, .int x1), (2, .int i2), (3, .int i3), (4, .int i4)]) hx hb dX5_changesFar_67 hl (by decide) rfl (fun ls hl => ?_)
          exact wX5_changesFar_69 hg X hr hN7 i2 i3 i4 a9 _ h H locs ls hw hS (lv_sub hl [2, 3, 4, 5, 6, 0] rfl)
def wpX5_changesFar_0 (x1 : Int32) (Q : Int32 → RS → Prop) (σ : RS) : Prop :=
  ∃ n, lq4 (wbX5_changesFar_7 x1 Q) n (0 : Int32) (0 : Int32) (0 : Int32) σ
set_option maxRecDepth 100000 in
set_option maxHeartbeats 4000000 in
theorem wX5_changesFar_0 {p : Program} {l : Launch} {e : Env} {s : State} {m : MethodId} {args : Array Value} {below : List Frame} {meth : Method} {c : Code} {D : va_G} {A : Nat → Prop} {g : mG} (hg : inj g) {x1 : Int32} (X : cx p m meth c s args cX5_changesFar 7 RX5 D (tyG g)) (hr : meth.sig.returnType = (some .int)) {Q : Int32 → RS → Prop} : ∀ (σ : RS), wpX5_changesFar_0 x1 Q σ → cW p l e rmX5_changesFar s m args below meth c (MQ below (va_Qi Q (fun u t => wd D A (rT g u) t.heap) A) args s 0 0 A) D A (rT g σ) 0 7 [(0, .ref (g.1 5000)), (1, .int x1)] := by
  obtain ⟨hx, hb, hml, hown, hts, hK, hlk⟩ := id X
  intro σ h H locs ls hw hS hl
  unfold wpX5_changesFar_0 at h
  refine lv_iconst (v := (0 : Int32)) hx hb dX5_changesFar_0 (by decide) ?_
  refine lv_istore_n (lv' := [(2, .int (0 : Int32)), (0, .ref (g.1 5000)), (1, .int x1)]) hx hb dX5_changesFar_1 rfl hl (by decide) rfl (fun ls hl => ?_)
  refine lv_iconst (v := (0 : Int32)) hx hb dX5_changesFar_2 (by decide) ?_
  refine lv_istore_n (lv' := [(3, .int (0 : Int32)), (2, .int (0 : Int32)), (0, .ref (g.1 5000)), (1, .int x1)]) hx hb dX5_changesFar_3 rfl hl (by decide) rfl (fun ls hl => ?_)
  refine lv_iconst (v := (0 : Int32)) hx hb dX5_changesFar_4 (by decide) ?_
  refine lv_istore (lv' := [(4, .int (0 : Int32)), (3, .int (0 : Int32)), (2, .int (0 : Int32)), (0, .ref (g.1 5000)), (1, .int x1)]) hx hb dX5_changesFar_5 hl (by decide) rfl (fun ls hl => ?_)
  obtain ⟨n9, h⟩ := h
  exact wX5_changesFar_7 hg X hr n9 (0 : Int32) (0 : Int32) (0 : Int32) _ h H locs ls hw hS (lv_sub hl [3, 4, 2, 1, 0] rfl)
def wpX5_changesFar (x1 : Int32) (σ : RS) (Q : Int32 → RS → Prop) : Prop := wpX5_changesFar_0 x1 Q σ
theorem kX5_changesFar {l : Launch} {D : va_G} {A : Nat → Prop} {g : mG} (hg : inj g) {x1 : Int32} {σ : RS} {Q : Int32 → RS → Prop} (h : wpX5_changesFar x1 σ Q) : Met l yX5_changesFar (Cond.code yX5_changesFar cX5_changesFar 7 (some .int) :: wsA) rmX5_changesFar (mPc D (tyG g) A (rT g σ) [.ref (g.1 5000), .int x1]) (va_Qi Q (fun u t => wd D A (rT g u) t.heap) A) 0 0 A :=
  m_met (by decide +kernel) (Nat.le_of_ble_eq_true rfl) (fun p e s m below meth c X hr H locs ls hw hS hl => wX5_changesFar_0 hg X hr σ h H locs ls hw hS (lv_sub hl [0, 1] rfl))
theorem fX5_changesFar : vfit yX5_changesFar cX5_changesFar 7 (some .int) 1 := ⟨mw_563, mw_564, mw_5, mw_565, by decide +kernel, by decide +kernel, by decide +kernel⟩
/-! BigPolysModel.roots(III)I -/
def rmX5_roots : Room := { frames := 8, cells := 0, slots := 0, locals := 201 }
def wpX5_roots_21 (x1 : Int32) (x2 : Int32) (x3 : Int32) (Q : Int32 → RS → Prop) (σ : RS) : Prop :=
  Q (-1 : Int32) σ
set_option maxRecDepth 100000 in
set_option maxHeartbeats 4000000 in
theorem wX5_roots_21 {p : Program} {l : Launch} {e : Env} {s : State} {m : MethodId} {args : Array Value} {below : List Frame} {meth : Method} {c : Code} {D : va_G} {A : Nat → Prop} {g : mG} (hg : inj g) {x1 : Int32} {x2 : Int32} {x3 : Int32} (X : cx p m meth c s args cX5_roots 4 RX5 D (tyG g)) (hr : meth.sig.returnType = (some .int)) {Q : Int32 → RS → Prop} : ∀ (σ : RS), wpX5_roots_21 x1 x2 x3 Q σ → cW p l e rmX5_roots s m args below meth c (MQ below (va_Qi Q (fun u t => wd D A (rT g u) t.heap) A) args s 0 0 A) D A (rT g σ) 21 4 [(0, .ref (g.1 5000)), (1, .int x1), (2, .int x2), (3, .int x3)] := by
  obtain ⟨hx, hb, hml, hown, hts, hK, hlk⟩ := id X
  intro σ h H locs ls hw hS hl
  unfold wpX5_roots_21 at h
  refine lv_iconst (v := (-1 : Int32)) hx hb dX5_roots_21 (by decide) ?_
  exact m_iret X hr hw hS h dX5_roots_22
def wpX5_roots_0 (x1 : Int32) (x2 : Int32) (x3 : Int32) (Q : Int32 → RS → Prop) (σ : RS) : Prop :=
  wpX5_isRegister x1 σ (fun (r1 : Int32) (σ2 : RS) =>
    (r1 = 0 →
      wpX5_roots_21 x1 x2 x3 Q σ2) ∧
    (¬ r1 = 0 →
      vp_in x1 24 ∧ (
      ((rD σ2 x1.toNatClampNeg) < 0 →
        wpX5_roots_21 x1 x2 x3 Q σ2) ∧
      (¬ (rD σ2 x1.toNatClampNeg) < 0 →
        (x2 ≤ x3 →
          wpX5_makeChain x1 σ2 (fun (σ4 : RS) =>
            wpX5_changes x2.toInt64 σ4 (fun (r5 : Int32) (σ6 : RS) =>
              wpX5_changes x3.toInt64 σ6 (fun (r7 : Int32) (σ8 : RS) =>
                Q (r5 - r7) σ8)))) ∧
        (¬ x2 ≤ x3 →
          wpX5_roots_21 x1 x2 x3 Q σ2)))))
set_option maxRecDepth 100000 in
set_option maxHeartbeats 4000000 in
theorem wX5_roots_0 {p : Program} {l : Launch} {e : Env} {s : State} {m : MethodId} {args : Array Value} {below : List Frame} {meth : Method} {c : Code} {D : va_G} {A : Nat → Prop} {g : mG} (hg : inj g) {x1 : Int32} {x2 : Int32} {x3 : Int32} (X : cx p m meth c s args cX5_roots 4 RX5 D (tyG g)) (hr : meth.sig.returnType = (some .int)) {Q : Int32 → RS → Prop} : ∀ (σ : RS), wpX5_roots_0 x1 x2 x3 Q σ → cW p l e rmX5_roots s m args below meth c (MQ below (va_Qi Q (fun u t => wd D A (rT g u) t.heap) A) args s 0 0 A) D A (rT g σ) 0 4 [(0, .ref (g.1 5000)), (1, .int x1), (2, .int x2), (3, .int x3)] := by
  obtain ⟨hx, hb, hml, hown, hts, hK, hlk⟩ := id X
  intro σ h H locs ls hw hS hl
  unfold wpX5_roots_0 at h
  refine lv_iload_n hx hb dX5_roots_0 rfl (lv_at hl 1 rfl) ?_
  refine m_cSi (TT := rT g) (As := [.int x1]) (rest := []) X hl.1 hw hS (kX5_isRegister hg h) mw_113 fX5_isRegister ⟨rfl, rfl, Nat.le_of_ble_eq_true rfl, Nat.le_of_ble_eq_true rfl⟩ rfl rfl (Nat.le_of_ble_eq_true rfl) dX5_roots_1 (fun r1 σ2 H locs h hw hS => ?_)
  refine lv_if_eq (tgt := 21) hx hb dX5_roots_4 (by decide) (fun hc => ?_) (fun hc => ?_)
  · replace h := h.1 hc
    exact wX5_roots_21 hg X hr _ h H locs ls hw hS (lv_sub hl [0, 1, 2, 3] rfl)
  · replace h := h.2 hc
    refine lv_aload_n hx hb dX5_roots_7 rfl (lv_at hl 0 rfl) ?_
    refine m_get (v := .ref (g.1 5004)) X hw qM rfl inA_X5 3 (by decide) mw_80 rfl dX5_roots_8 ?_
    refine lv_iload_n hx hb dX5_roots_11 rfl (lv_at hl 1 rfl) ?_
    obtain ⟨hi, h⟩ := h
    refine m_iald X hw qD 0 rfl hi dX5_roots_12 ?_
    refine lv_if_lt (tgt := 21) hx hb dX5_roots_13 (by decide) (fun hc => ?_) (fun hc => ?_)
    · replace h := h.1 hc
      exact wX5_roots_21 hg X hr _ h H locs ls hw hS (lv_sub hl [0, 1, 2, 3] rfl)
    · replace h := h.2 hc
      refine lv_iload_n hx hb dX5_roots_16 rfl (lv_at hl 2 rfl) ?_
      refine lv_iload_n hx hb dX5_roots_17 rfl (lv_at hl 3 rfl) ?_
      refine lv_icmp_le (tgt := 23) hx hb dX5_roots_18 (by decide) (fun hc => ?_) (fun hc => ?_)
      · replace h := h.1 hc
        refine lv_aload_n hx hb dX5_roots_23 rfl (lv_at hl 0 rfl) ?_
        refine lv_iload_n hx hb dX5_roots_24 rfl (lv_at hl 1 rfl) ?_
        refine m_cVv (TT := rT g) (As := [.int x1]) (rest := []) X hl.1 hw hS (kX5_makeChain hg h) mw_544 fX5_makeChain qM rfl rfl ⟨rfl, rfl, Nat.le_of_ble_eq_true rfl, Nat.le_of_ble_eq_true rfl⟩ rfl rfl (Nat.le_of_ble_eq_true rfl) dX5_roots_25 (fun σ4 H locs h hw hS => ?_)
        refine lv_aload_n hx hb dX5_roots_28 rfl (lv_at hl 0 rfl) ?_
        refine lv_iload_n hx hb dX5_roots_29 rfl (lv_at hl 2 rfl) ?_
        refine lv_i2l (v := x2.toInt64) hx hb dX5_roots_30 rfl ?_
        refine m_cVi (TT := rT g) (As := [.long x2.toInt64]) (rest := []) X hl.1 hw hS (kX5_changes hg h) mw_549 fX5_changes qM rfl rfl ⟨rfl, rfl, Nat.le_of_ble_eq_true rfl, Nat.le_of_ble_eq_true rfl⟩ rfl rfl (Nat.le_of_ble_eq_true rfl) dX5_roots_31 (fun r5 σ6 H locs h hw hS => ?_)
        refine lv_aload_n hx hb dX5_roots_34 rfl (lv_at hl 0 rfl) ?_
        refine lv_iload_n hx hb dX5_roots_35 rfl (lv_at hl 3 rfl) ?_
        refine lv_i2l (v := x3.toInt64) hx hb dX5_roots_36 rfl ?_
        refine m_cVi (TT := rT g) (As := [.long x3.toInt64]) (rest := [.int r5]) X hl.1 hw hS (kX5_changes hg h) mw_549 fX5_changes qM rfl rfl ⟨rfl, rfl, Nat.le_of_ble_eq_true rfl, Nat.le_of_ble_eq_true rfl⟩ rfl rfl (Nat.le_of_ble_eq_true rfl) dX5_roots_37 (fun r7 σ8 H locs h hw hS => ?_)
        refine lv_isub hx hb dX5_roots_40 ?_
        exact m_iret X hr hw hS h dX5_roots_41
      · replace h := h.2 hc
        exact wX5_roots_21 hg X hr _ h H locs ls hw hS (lv_sub hl [0, 1, 2, 3] rfl)
def wpX5_roots (x1 : Int32) (x2 : Int32) (x3 : Int32) (σ : RS) (Q : Int32 → RS → Prop) : Prop := wpX5_roots_0 x1 x2 x3 Q σ
theorem kX5_roots {l : Launch} {D : va_G} {A : Nat → Prop} {g : mG} (hg : inj g) {x1 : Int32} {x2 : Int32} {x3 : Int32} {σ : RS} {Q : Int32 → RS → Prop} (h : wpX5_roots x1 x2 x3 σ Q) : Met l yX5_roots (Cond.code yX5_roots cX5_roots 4 (some .int) :: wsA) rmX5_roots (mPc D (tyG g) A (rT g σ) [.ref (g.1 5000), .int x1, .int x2, .int x3]) (va_Qi Q (fun u t => wd D A (rT g u) t.heap) A) 0 0 A :=
  m_met (by decide +kernel) (Nat.le_of_ble_eq_true rfl) (fun p e s m below meth c X hr H locs ls hw hS hl => wX5_roots_0 hg X hr σ h H locs ls hw hS (lv_sub hl [0, 1, 2, 3] rfl))
theorem fX5_roots : vfit yX5_roots cX5_roots 4 (some .int) 3 := ⟨mw_541, mw_542, mw_5, mw_543, by decide +kernel, by decide +kernel, by decide +kernel⟩
/-! BigPolysModel.allRoots(I)I -/
def rmX5_allRoots : Room := { frames := 8, cells := 0, slots := 0, locals := 201 }
def wpX5_allRoots_16 (x1 : Int32) (Q : Int32 → RS → Prop) (σ : RS) : Prop :=
  Q (-1 : Int32) σ
set_option maxRecDepth 100000 in
set_option maxHeartbeats 4000000 in
theorem wX5_allRoots_16 {p : Program} {l : Launch} {e : Env} {s : State} {m : MethodId} {args : Array Value} {below : List Frame} {meth : Method} {c : Code} {D : va_G} {A : Nat → Prop} {g : mG} (hg : inj g) {x1 : Int32} (X : cx p m meth c s args cX5_allRoots 2 RX5 D (tyG g)) (hr : meth.sig.returnType = (some .int)) {Q : Int32 → RS → Prop} : ∀ (σ : RS), wpX5_allRoots_16 x1 Q σ → cW p l e rmX5_allRoots s m args below meth c (MQ below (va_Qi Q (fun u t => wd D A (rT g u) t.heap) A) args s 0 0 A) D A (rT g σ) 16 2 [(0, .ref (g.1 5000)), (1, .int x1)] := by
  obtain ⟨hx, hb, hml, hown, hts, hK, hlk⟩ := id X
  intro σ h H locs ls hw hS hl
  unfold wpX5_allRoots_16 at h
  refine lv_iconst (v := (-1 : Int32)) hx hb dX5_allRoots_16 (by decide) ?_
  exact m_iret X hr hw hS h dX5_allRoots_17
def wpX5_allRoots_0 (x1 : Int32) (Q : Int32 → RS → Prop) (σ : RS) : Prop :=
  wpX5_isRegister x1 σ (fun (r1 : Int32) (σ2 : RS) =>
    (r1 = 0 →
      wpX5_allRoots_16 x1 Q σ2) ∧
    (¬ r1 = 0 →
      vp_in x1 24 ∧ (
      (0 ≤ (rD σ2 x1.toNatClampNeg) →
        wpX5_makeChain x1 σ2 (fun (σ4 : RS) =>
          wpX5_changesFar (0 : Int32) σ4 (fun (r5 : Int32) (σ6 : RS) =>
            wpX5_changesFar (1 : Int32) σ6 (fun (r7 : Int32) (σ8 : RS) =>
              Q (r5 - r7) σ8)))) ∧
      (¬ 0 ≤ (rD σ2 x1.toNatClampNeg) →
        wpX5_allRoots_16 x1 Q σ2))))
set_option maxRecDepth 100000 in
set_option maxHeartbeats 4000000 in
theorem wX5_allRoots_0 {p : Program} {l : Launch} {e : Env} {s : State} {m : MethodId} {args : Array Value} {below : List Frame} {meth : Method} {c : Code} {D : va_G} {A : Nat → Prop} {g : mG} (hg : inj g) {x1 : Int32} (X : cx p m meth c s args cX5_allRoots 2 RX5 D (tyG g)) (hr : meth.sig.returnType = (some .int)) {Q : Int32 → RS → Prop} : ∀ (σ : RS), wpX5_allRoots_0 x1 Q σ → cW p l e rmX5_allRoots s m args below meth c (MQ below (va_Qi Q (fun u t => wd D A (rT g u) t.heap) A) args s 0 0 A) D A (rT g σ) 0 2 [(0, .ref (g.1 5000)), (1, .int x1)] := by
  obtain ⟨hx, hb, hml, hown, hts, hK, hlk⟩ := id X
  intro σ h H locs ls hw hS hl
  unfold wpX5_allRoots_0 at h
  refine lv_iload_n hx hb dX5_allRoots_0 rfl (lv_at hl 1 rfl) ?_
  refine m_cSi (TT := rT g) (As := [.int x1]) (rest := []) X hl.1 hw hS (kX5_isRegister hg h) mw_113 fX5_isRegister ⟨rfl, rfl, Nat.le_of_ble_eq_true rfl, Nat.le_of_ble_eq_true rfl⟩ rfl rfl (Nat.le_of_ble_eq_true rfl) dX5_allRoots_1 (fun r1 σ2 H locs h hw hS => ?_)
  refine lv_if_eq (tgt := 16) hx hb dX5_allRoots_4 (by decide) (fun hc => ?_) (fun hc => ?_)
  · replace h := h.1 hc
    exact wX5_allRoots_16 hg X hr _ h H locs ls hw hS (lv_sub hl [0, 1] rfl)
  · replace h := h.2 hc
    refine lv_aload_n hx hb dX5_allRoots_7 rfl (lv_at hl 0 rfl) ?_
    refine m_get (v := .ref (g.1 5004)) X hw qM rfl inA_X5 3 (by decide) mw_80 rfl dX5_allRoots_8 ?_
    refine lv_iload_n hx hb dX5_allRoots_11 rfl (lv_at hl 1 rfl) ?_
    obtain ⟨hi, h⟩ := h
    refine m_iald X hw qD 0 rfl hi dX5_allRoots_12 ?_
    refine lv_if_ge (tgt := 18) hx hb dX5_allRoots_13 (by decide) (fun hc => ?_) (fun hc => ?_)
    · replace h := h.1 hc
      refine lv_aload_n hx hb dX5_allRoots_18 rfl (lv_at hl 0 rfl) ?_
      refine lv_iload_n hx hb dX5_allRoots_19 rfl (lv_at hl 1 rfl) ?_
      refine m_cVv (TT := rT g) (As := [.int x1]) (rest := []) X hl.1 hw hS (kX5_makeChain hg h) mw_544 fX5_makeChain qM rfl rfl ⟨rfl, rfl, Nat.le_of_ble_eq_true rfl, Nat.le_of_ble_eq_true rfl⟩ rfl rfl (Nat.le_of_ble_eq_true rfl) dX5_allRoots_20 (fun σ4 H locs h hw hS => ?_)
      refine lv_aload_n hx hb dX5_allRoots_23 rfl (lv_at hl 0 rfl) ?_
      refine lv_iconst (v := (0 : Int32)) hx hb dX5_allRoots_24 (by decide) ?_
      refine m_cVi (TT := rT g) (As := [.int (0 : Int32)]) (rest := []) X hl.1 hw hS (kX5_changesFar hg h) mw_562 fX5_changesFar qM rfl rfl ⟨rfl, rfl, Nat.le_of_ble_eq_true rfl, Nat.le_of_ble_eq_true rfl⟩ rfl rfl (Nat.le_of_ble_eq_true rfl) dX5_allRoots_25 (fun r5 σ6 H locs h hw hS => ?_)
      refine lv_aload_n hx hb dX5_allRoots_28 rfl (lv_at hl 0 rfl) ?_
      refine lv_iconst (v := (1 : Int32)) hx hb dX5_allRoots_29 (by decide) ?_
      refine m_cVi (TT := rT g) (As := [.int (1 : Int32)]) (rest := [.int r5]) X hl.1 hw hS (kX5_changesFar hg h) mw_562 fX5_changesFar qM rfl rfl ⟨rfl, rfl, Nat.le_of_ble_eq_true rfl, Nat.le_of_ble_eq_true rfl⟩ rfl rfl (Nat.le_of_ble_eq_true rfl) dX5_allRoots_30 (fun r7 σ8 H locs h hw hS => ?_)
      refine lv_isub hx hb dX5_allRoots_33 ?_
      exact m_iret X hr hw hS h dX5_allRoots_34
    · replace h := h.2 hc
      exact wX5_allRoots_16 hg X hr _ h H locs ls hw hS (lv_sub hl [0, 1] rfl)
def wpX5_allRoots (x1 : Int32) (σ : RS) (Q : Int32 → RS → Prop) : Prop := wpX5_allRoots_0 x1 Q σ
theorem kX5_allRoots {l : Launch} {D : va_G} {A : Nat → Prop} {g : mG} (hg : inj g) {x1 : Int32} {σ : RS} {Q : Int32 → RS → Prop} (h : wpX5_allRoots x1 σ Q) : Met l yX5_allRoots (Cond.code yX5_allRoots cX5_allRoots 2 (some .int) :: wsA) rmX5_allRoots (mPc D (tyG g) A (rT g σ) [.ref (g.1 5000), .int x1]) (va_Qi Q (fun u t => wd D A (rT g u) t.heap) A) 0 0 A :=
  m_met (by decide +kernel) (Nat.le_of_ble_eq_true rfl) (fun p e s m below meth c X hr H locs ls hw hS hl => wX5_allRoots_0 hg X hr σ h H locs ls hw hS (lv_sub hl [0, 1] rfl))
theorem fX5_allRoots : vfit yX5_allRoots cX5_allRoots 2 (some .int) 1 := ⟨mw_559, mw_560, mw_5, mw_561, by decide +kernel, by decide +kernel, by decide +kernel⟩
/-! BigPolysModel.below(J)I -/
def rmX5_below : Room := { frames := 4, cells := 0, slots := 0, locals := 111 }
def wpX5_below_0 (y1 : Int64) (Q : Int32 → RS → Prop) (σ : RS) : Prop :=
  wpX5_changesFar (0 : Int32) σ (fun (r1 : Int32) (σ2 : RS) =>
    wpX5_changes y1 σ2 (fun (r3 : Int32) (σ4 : RS) =>
      wpX5_signAt (8 : Int32) y1 (1 : Int64) σ4 (fun (r5 : Int32) (σ6 : RS) =>
        (¬ r5 = 0 →
          Q ((r1 - r3) - (0 : Int32)) σ6) ∧
        (r5 = 0 →
          Q ((r1 - r3) - (1 : Int32)) σ6))))
set_option maxRecDepth 100000 in
set_option maxHeartbeats 4000000 in
theorem wX5_below_0 {p : Program} {l : Launch} {e : Env} {s : State} {m : MethodId} {args : Array Value} {below : List Frame} {meth : Method} {c : Code} {D : va_G} {A : Nat → Prop} {g : mG} (hg : inj g) {y1 : Int64} (X : cx p m meth c s args cX5_below 3 RX5 D (tyG g)) (hr : meth.sig.returnType = (some .int)) {Q : Int32 → RS → Prop} : ∀ (σ : RS), wpX5_below_0 y1 Q σ → cW p l e rmX5_below s m args below meth c (MQ below (va_Qi Q (fun u t => wd D A (rT g u) t.heap) A) args s 0 0 A) D A (rT g σ) 0 3 [(0, .ref (g.1 5000)), (1, .long y1)] := by
  obtain ⟨hx, hb, hml, hown, hts, hK, hlk⟩ := id X
  intro σ h H locs ls hw hS hl
  unfold wpX5_below_0 at h
  refine lv_aload_n hx hb dX5_below_0 rfl (lv_at hl 0 rfl) ?_
  refine lv_iconst (v := (0 : Int32)) hx hb dX5_below_1 (by decide) ?_
  refine m_cVi (TT := rT g) (As := [.int (0 : Int32)]) (rest := []) X hl.1 hw hS (kX5_changesFar hg h) mw_562 fX5_changesFar qM rfl rfl ⟨rfl, rfl, Nat.le_of_ble_eq_true rfl, Nat.le_of_ble_eq_true rfl⟩ rfl rfl (Nat.le_of_ble_eq_true rfl) dX5_below_2 (fun r1 σ2 H locs h hw hS => ?_)
  refine lv_aload_n hx hb dX5_below_5 rfl (lv_at hl 0 rfl) ?_
  refine lv_lload_n hx hb dX5_below_6 rfl (lv_at hl 1 rfl) ?_
  refine m_cVi (TT := rT g) (As := [.long y1]) (rest := [.int r1]) X hl.1 hw hS (kX5_changes hg h) mw_549 fX5_changes qM rfl rfl ⟨rfl, rfl, Nat.le_of_ble_eq_true rfl, Nat.le_of_ble_eq_true rfl⟩ rfl rfl (Nat.le_of_ble_eq_true rfl) dX5_below_7 (fun r3 σ4 H locs h hw hS => ?_)
  refine lv_isub hx hb dX5_below_10 ?_
  refine lv_aload_n hx hb dX5_below_11 rfl (lv_at hl 0 rfl) ?_
  refine lv_bipush (v := (8 : Int32)) hx hb dX5_below_12 (by decide) ?_
  refine lv_lload_n hx hb dX5_below_14 rfl (lv_at hl 1 rfl) ?_
  refine lv_lconst (v := (1 : Int64)) hx hb dX5_below_15 (by decide) ?_
  refine m_cVi (TT := rT g) (As := [.int (8 : Int32), .long y1, .long (1 : Int64)]) (rest := [.int (r1 - r3)]) X hl.1 hw hS (kX5_signAt hg h) mw_518 fX5_signAt qM rfl rfl ⟨rfl, rfl, Nat.le_of_ble_eq_true rfl, Nat.le_of_ble_eq_true rfl⟩ rfl rfl (Nat.le_of_ble_eq_true rfl) dX5_below_16 (fun r5 σ6 H locs h hw hS => ?_)
  refine lv_if_ne (tgt := 26) hx hb dX5_below_19 (by decide) (fun hc => ?_) (fun hc => ?_)
  · replace h := h.1 hc
    refine lv_iconst (v := (0 : Int32)) hx hb dX5_below_26 (by decide) ?_
    refine lv_isub hx hb dX5_below_27 ?_
    exact m_iret X hr hw hS h dX5_below_28
  · replace h := h.2 hc
    refine lv_iconst (v := (1 : Int32)) hx hb dX5_below_22 (by decide) ?_
    refine lv_goto (tgt := 27) hx hb dX5_below_23 (by decide) ?_
    refine lv_isub hx hb dX5_below_27 ?_
    exact m_iret X hr hw hS h dX5_below_28
def wpX5_below (y1 : Int64) (σ : RS) (Q : Int32 → RS → Prop) : Prop := wpX5_below_0 y1 Q σ
theorem kX5_below {l : Launch} {D : va_G} {A : Nat → Prop} {g : mG} (hg : inj g) {y1 : Int64} {σ : RS} {Q : Int32 → RS → Prop} (h : wpX5_below y1 σ Q) : Met l yX5_below (Cond.code yX5_below cX5_below 3 (some .int) :: wsA) rmX5_below (mPc D (tyG g) A (rT g σ) [.ref (g.1 5000), .long y1]) (va_Qi Q (fun u t => wd D A (rT g u) t.heap) A) 0 0 A :=
  m_met (by decide +kernel) (Nat.le_of_ble_eq_true rfl) (fun p e s m below meth c X hr H locs ls hw hS hl => wX5_below_0 hg X hr σ h H locs ls hw hS (lv_sub hl [0, 1] rfl))
theorem fX5_below : vfit yX5_below cX5_below 3 (some .int) 1 := ⟨mw_593, mw_594, mw_5, mw_595, by decide +kernel, by decide +kernel, by decide +kernel⟩
/-! BigPolysModel.place(II)J -/
def rmX5_place : Room := { frames := 8, cells := 0, slots := 0, locals := 201 }
def wpX5_place_120 (x1 : Int32) (x2 : Int32) (Q : Int64 → RS → Prop) (N80 : Int64 → Int64 → RS → Prop) (l5 : Int64) (l7 : Int64) (σ : RS) : Prop :=
  N80 l5 l7 σ
set_option maxRecDepth 100000 in
set_option maxHeartbeats 4000000 in
theorem wX5_place_120 {p : Program} {l : Launch} {e : Env} {s : State} {m : MethodId} {args : Array Value} {below : List Frame} {meth : Method} {c : Code} {D : va_G} {A : Nat → Prop} {g : mG} (hg : inj g) {x1 : Int32} {x2 : Int32} (X : cx p m meth c s args cX5_place 11 RX5 D (tyG g)) (hr : meth.sig.returnType = (some .long)) {Q : Int64 → RS → Prop} {N80 : Int64 → Int64 → RS → Prop} (hN80 : ∀ (l5 : Int64) (l7 : Int64) (σ : RS), N80 l5 l7 σ → cW p l e rmX5_place s m args below meth c (MQ below (va_Ql Q (fun u t => wd D A (rT g u) t.heap) A) args s 0 0 A) D A (rT g σ) 80 11 [(0, .ref (g.1 5000)), (1, .int x1), (2, .int x2), (5, .long l5), (7, .long l7)]) : ∀ (l5 : Int64) (l7 : Int64) (σ : RS), wpX5_place_120 x1 x2 Q N80 l5 l7 σ → cW p l e rmX5_place s m args below meth c (MQ below (va_Ql Q (fun u t => wd D A (rT g u) t.heap) A) args s 0 0 A) D A (rT g σ) 120 11 [(0, .ref (g.1 5000)), (1, .int x1), (2, .int x2), (5, .long l5), (7, .long l7)] := by
  obtain ⟨hx, hb, hml, hown, hts, hK, hlk⟩ := id X
  intro l5 l7 σ h H locs ls hw hS hl
  unfold wpX5_place_120 at h
  refine lv_goto (tgt := 80) hx hb dX5_place_120 (by decide) ?_
  exact hN80 l5 l7 _ h H locs ls hw hS (lv_sub hl [0, 1, 2, 3, 4] rfl)
def wbX5_place_80 (x1 : Int32) (x2 : Int32) (Q : Int64 → RS → Prop) (N80 : Int64 → Int64 → RS → Prop) (l5 : Int64) (l7 : Int64) (σ : RS) : Prop :=
  ((lg_cmp (l7 - l5) (1 : Int64)) ≤ 0 →
    Q l5 σ) ∧
  (¬ (lg_cmp (l7 - l5) (1 : Int64)) ≤ 0 →
    ∀ b1 : Int64, b1 = jlshr (l5 + l7) (1 : Int32) →
    wpX5_below b1 σ (fun (r2 : Int32) (σ3 : RS) =>
      (x2 < r2 →
        wpX5_place_120 x1 x2 Q N80 l5 b1 σ3) ∧
      (¬ x2 < r2 →
        wpX5_place_120 x1 x2 Q N80 b1 l7 σ3)))
set_option maxRecDepth 100000 in
set_option maxHeartbeats 4000000 in
theorem wX5_place_80 {p : Program} {l : Launch} {e : Env} {s : State} {m : MethodId} {args : Array Value} {below : List Frame} {meth : Method} {c : Code} {D : va_G} {A : Nat → Prop} {g : mG} (hg : inj g) {x1 : Int32} {x2 : Int32} (X : cx p m meth c s args cX5_place 11 RX5 D (tyG g)) (hr : meth.sig.returnType = (some .long)) {Q : Int64 → RS → Prop} : ∀ (n : Nat) (l5 : Int64) (l7 : Int64) (σ : RS), lq3 (wbX5_place_80 x1 x2 Q) n l5 l7 σ → cW p l e rmX5_place s m args below meth c (MQ below (va_Ql Q (fun u t => wd D A (rT g u) t.heap) A) args s 0 0 A) D A (rT g σ) 80 11 [(0, .ref (g.1 5000)), (1, .int x1), (2, .int x2), (5, .long l5), (7, .long l7)] := by
  obtain ⟨hx, hb, hml, hown, hts, hK, hlk⟩ := id X
  intro n
  induction n with
  | zero =>
    intro l5 l7 σ h
    exact h.elim
  | succ n hN80 =>
    intro l5 l7 σ h H locs ls hw hS hl
    replace h : wbX5_place_80 x1 x2 Q (lq3 (wbX5_place_80 x1 x2 Q) n) l5 l7 σ := h
    unfold wbX5_place_80 at h
    refine lv_lload hx hb dX5_place_80 (lv_at hl 4 rfl) ?_
    refine lv_lload hx hb dX5_place_82 (lv_at hl 3 rfl) ?_
    refine lv_lsub hx hb dX5_place_84 ?_
    refine lv_lconst (v := (1 : Int64)) hx hb dX5_place_85 (by decide) ?_
    refine W.lcmp hx hb dX5_place_86 ?_
    refine lv_if_le (tgt := 123) hx hb dX5_place_87 (by decide) (fun hc => ?_) (fun hc => ?_)
    · replace h := h.1 hc
      refine lv_lload hx hb dX5_place_123 (lv_at hl 3 rfl) ?_
      exact m_lret X hr hw hS h dX5_place_125
    · replace h := h.2 hc
      refine lv_lload hx hb dX5_place_90 (lv_at hl 3 rfl) ?_
      refine lv_lload hx hb dX5_place_92 (lv_at hl 4 rfl) ?_
      refine lv_ladd hx hb dX5_place_94 ?_
      refine lv_iconst (v := (1 : Int32)) hx hb dX5_place_95 (by decide) ?_
      refine lv_lshr (v := jlshr (l5 + l7) (1 : Int32)) hx hb dX5_place_96 rfl ?_
      refine lv_topl (fun b1 eb1 => ?_)
      replace h := h b1 eb1
      refine lv_lstore (lv' := [(9, .long b1), (0, .ref (g.1 5000)), (1, .int x1), (2, .int x2), (5, .long l5), (7, .long l7)]) hx hb dX5_place_97 hl (by decide) rfl (fun ls hl => ?_)
      refine lv_aload_n hx hb dX5_place_99 rfl (lv_at hl 1 rfl) ?_
      refine lv_lload hx hb dX5_place_100 (lv_at hl 0 rfl) ?_
      refine m_cVi (TT := rT g) (As := [.long b1]) (rest := []) X hl.1 hw hS (kX5_below hg h) mw_592 fX5_below qM rfl rfl ⟨rfl, rfl, Nat.le_of_ble_eq_true rfl, Nat.le_of_ble_eq_true rfl⟩ rfl rfl (Nat.le_of_ble_eq_true rfl) dX5_place_102 (fun r2 σ3 H locs h hw hS => ?_)
      refine lv_iload_n hx hb dX5_place_105 rfl (lv_at hl 3 rfl) ?_
      refine lv_icmp_gt (tgt := 116) hx hb dX5_place_106 (by decide) (fun hc => ?_) (fun hc => ?_)
      · replace h := h.1 hc
        refine lv_lload hx hb dX5_place_116 (lv_at hl 0 rfl) ?_
        refine lv_lstore (lv' := [(7, .long b1), (9, .long b1), (0, .ref (g.1 5000)), (1, .int x1), (2, .int x2), (5, .long l5)]) hx hb dX5_place_118 hl (by decide) rfl (fun ls hl => ?_)
        exact wX5_place_120 hg X hr hN80 l5 b1 _ h H locs ls hw hS (lv_sub hl [2, 3, 4, 5, 0] rfl)
      · replace h := h.2 hc
        refine lv_lload hx hb dX5_place_109 (lv_at hl 0 rfl) ?_
        refine lv_lstore (lv' := [(5, .long b1), (9, .long b1), (0, .ref (g.1 5000)), (1, .int x1), (2, .int x2), (7, .long l7)]) hx hb dX5_place_111 hl (by decide) rfl (fun ls hl => ?_)
        refine lv_goto (tgt := 120) hx hb dX5_place_113 (by decide) ?_
        exact wX5_place_120 hg X hr hN80 b1 l7 _ h H locs ls hw hS (lv_sub hl [2, 3, 4, 0, 5] rfl)
def wpX5_place_78 (x1 : Int32) (x2 : Int32) (Q : Int64 → RS → Prop) (l3 : Int64) (σ : RS) : Prop :=
  Q l3 σ
set_option maxRecDepth 100000 in
set_option maxHeartbeats 4000000 in
theorem wX5_place_78 {p : Program} {l : Launch} {e : Env} {s : State} {m : MethodId} {args : Array Value} {below : List Frame} {meth : Method} {c : Code} {D : va_G} {A : Nat → Prop} {g : mG} (hg : inj g) {x1 : Int32} {x2 : Int32} (X : cx p m meth c s args cX5_place 11 RX5 D (tyG g)) (hr : meth.sig.returnType = (some .long)) {Q : Int64 → RS → Prop} : ∀ (l3 : Int64) (σ : RS), wpX5_place_78 x1 x2 Q l3 σ → cW p l e rmX5_place s m args below meth c (MQ below (va_Ql Q (fun u t => wd D A (rT g u) t.heap) A) args s 0 0 A) D A (rT g σ) 78 11 [(0, .ref (g.1 5000)), (1, .int x1), (2, .int x2), (3, .long l3)] := by
  obtain ⟨hx, hb, hml, hown, hts, hK, hlk⟩ := id X
  intro l3 σ h H locs ls hw hS hl
  unfold wpX5_place_78 at h
  refine lv_lload_n hx hb dX5_place_78 rfl (lv_at hl 3 rfl) ?_
  exact m_lret X hr hw hS h dX5_place_79
def wpX5_place_24 (x1 : Int32) (x2 : Int32) (Q : Int64 → RS → Prop) (l3 : Int64) (σ : RS) : Prop :=
  Q l3 σ
set_option maxRecDepth 100000 in
set_option maxHeartbeats 4000000 in
theorem wX5_place_24 {p : Program} {l : Launch} {e : Env} {s : State} {m : MethodId} {args : Array Value} {below : List Frame} {meth : Method} {c : Code} {D : va_G} {A : Nat → Prop} {g : mG} (hg : inj g) {x1 : Int32} {x2 : Int32} (X : cx p m meth c s args cX5_place 11 RX5 D (tyG g)) (hr : meth.sig.returnType = (some .long)) {Q : Int64 → RS → Prop} : ∀ (l3 : Int64) (σ : RS), wpX5_place_24 x1 x2 Q l3 σ → cW p l e rmX5_place s m args below meth c (MQ below (va_Ql Q (fun u t => wd D A (rT g u) t.heap) A) args s 0 0 A) D A (rT g σ) 24 11 [(0, .ref (g.1 5000)), (1, .int x1), (2, .int x2), (3, .long l3)] := by
  obtain ⟨hx, hb, hml, hown, hts, hK, hlk⟩ := id X
  intro l3 σ h H locs ls hw hS hl
  unfold wpX5_place_24 at h
  refine lv_lload_n hx hb dX5_place_24 rfl (lv_at hl 3 rfl) ?_
  exact m_lret X hr hw hS h dX5_place_25
def wpX5_place_0 (x1 : Int32) (x2 : Int32) (Q : Int64 → RS → Prop) (σ : RS) : Prop :=
  wpX5_isRegister x1 σ (fun (r4 : Int32) (σ5 : RS) =>
    (r4 = 0 →
      wpX5_place_24 x1 x2 Q (-9223372036854775808 : Int64) σ5) ∧
    (¬ r4 = 0 →
      vp_in x1 24 ∧ (
      ((rD σ5 x1.toNatClampNeg) < 0 →
        wpX5_place_24 x1 x2 Q (-9223372036854775808 : Int64) σ5) ∧
      (¬ (rD σ5 x1.toNatClampNeg) < 0 →
        (0 ≤ x2 →
          wpX5_makeChain x1 σ5 (fun (σ7 : RS) =>
            wpX5_changesFar (0 : Int32) σ7 (fun (r8 : Int32) (σ9 : RS) =>
              wpX5_changesFar (1 : Int32) σ9 (fun (r10 : Int32) (σ11 : RS) =>
                (x2 < (r8 - r10) →
                  wpX5_below (-2147483647 : Int64) σ11 (fun (r12 : Int32) (σ13 : RS) =>
                    (x2 < r12 →
                      wpX5_place_78 x1 x2 Q (-9223372036854775808 : Int64) σ13) ∧
                    (¬ x2 < r12 →
                      wpX5_below (2147483648 : Int64) σ13 (fun (r14 : Int32) (σ15 : RS) =>
                        (x2 < r14 →
                          ∃ n, lq3 (wbX5_place_80 x1 x2 Q) n (-2147483647 : Int64) (2147483648 : Int64) σ15) ∧
                        (¬ x2 < r14 →
                          wpX5_place_78 x1 x2 Q (-9223372036854775808 : Int64) σ15))))) ∧
                (¬ x2 < (r8 - r10) →
                  Q (-9223372036854775808 : Int64) σ11))))) ∧
        (¬ 0 ≤ x2 →
          wpX5_place_24 x1 x2 Q (-9223372036854775808 : Int64) σ5)))))
set_option maxRecDepth 100000 in
set_option maxHeartbeats 4000000 in
theorem wX5_place_0 {p : Program} {l : Launch} {e : Env} {s : State} {m : MethodId} {args : Array Value} {below : List Frame} {meth : Method} {c : Code} {D : va_G} {A : Nat → Prop} {g : mG} (hg : inj g) {x1 : Int32} {x2 : Int32} (X : cx p m meth c s args cX5_place 11 RX5 D (tyG g)) (hr : meth.sig.returnType = (some .long)) {Q : Int64 → RS → Prop} : ∀ (σ : RS), wpX5_place_0 x1 x2 Q σ → cW p l e rmX5_place s m args below meth c (MQ below (va_Ql Q (fun u t => wd D A (rT g u) t.heap) A) args s 0 0 A) D A (rT g σ) 0 11 [(0, .ref (g.1 5000)), (1, .int x1), (2, .int x2)] := by
  obtain ⟨hx, hb, hml, hown, hts, hK, hlk⟩ := id X
  intro σ h H locs ls hw hS hl
  unfold wpX5_place_0 at h
  refine lv_ldc2 (v := (-9223372036854775808 : Int64)) hx hb hown (hts _ mw_589) dX5_place_0 ?_
  refine lv_lstore_n (lv' := [(3, .long (-9223372036854775808 : Int64)), (0, .ref (g.1 5000)), (1, .int x1), (2, .int x2)]) hx hb dX5_place_3 rfl hl (by decide) rfl (fun ls hl => ?_)
  refine lv_iload_n hx hb dX5_place_4 rfl (lv_at hl 2 rfl) ?_
  refine m_cSi (TT := rT g) (As := [.int x1]) (rest := []) X hl.1 hw hS (kX5_isRegister hg h) mw_113 fX5_isRegister ⟨rfl, rfl, Nat.le_of_ble_eq_true rfl, Nat.le_of_ble_eq_true rfl⟩ rfl rfl (Nat.le_of_ble_eq_true rfl) dX5_place_5 (fun r4 σ5 H locs h hw hS => ?_)
  refine lv_if_eq (tgt := 24) hx hb dX5_place_8 (by decide) (fun hc => ?_) (fun hc => ?_)
  · replace h := h.1 hc
    exact wX5_place_24 hg X hr (-9223372036854775808 : Int64) _ h H locs ls hw hS (lv_sub hl [1, 2, 3, 0] rfl)
  · replace h := h.2 hc
    refine lv_aload_n hx hb dX5_place_11 rfl (lv_at hl 1 rfl) ?_
    refine m_get (v := .ref (g.1 5004)) X hw qM rfl inA_X5 3 (by decide) mw_80 rfl dX5_place_12 ?_
    refine lv_iload_n hx hb dX5_place_15 rfl (lv_at hl 2 rfl) ?_
    obtain ⟨hi, h⟩ := h
    refine m_iald X hw qD 0 rfl hi dX5_place_16 ?_
    refine lv_if_lt (tgt := 24) hx hb dX5_place_17 (by decide) (fun hc => ?_) (fun hc => ?_)
    · replace h := h.1 hc
      exact wX5_place_24 hg X hr (-9223372036854775808 : Int64) _ h H locs ls hw hS (lv_sub hl [1, 2, 3, 0] rfl)
    · replace h := h.2 hc
      refine lv_iload_n hx hb dX5_place_20 rfl (lv_at hl 3 rfl) ?_
      refine lv_if_ge (tgt := 26) hx hb dX5_place_21 (by decide) (fun hc => ?_) (fun hc => ?_)
      · replace h := h.1 hc
        refine lv_aload_n hx hb dX5_place_26 rfl (lv_at hl 1 rfl) ?_
        refine lv_iload_n hx hb dX5_place_27 rfl (lv_at hl 2 rfl) ?_
        refine m_cVv (TT := rT g) (As := [.int x1]) (rest := []) X hl.1 hw hS (kX5_makeChain hg h) mw_544 fX5_makeChain qM rfl rfl ⟨rfl, rfl, Nat.le_of_ble_eq_true rfl, Nat.le_of_ble_eq_true rfl⟩ rfl rfl (Nat.le_of_ble_eq_true rfl) dX5_place_28 (fun σ7 H locs h hw hS => ?_)
        refine lv_iload_n hx hb dX5_place_31 rfl (lv_at hl 3 rfl) ?_
        refine lv_aload_n hx hb dX5_place_32 rfl (lv_at hl 1 rfl) ?_
        refine lv_iconst (v := (0 : Int32)) hx hb dX5_place_33 (by decide) ?_
        refine m_cVi (TT := rT g) (As := [.int (0 : Int32)]) (rest := [.int x2]) X hl.1 hw hS (kX5_changesFar hg h) mw_562 fX5_changesFar qM rfl rfl ⟨rfl, rfl, Nat.le_of_ble_eq_true rfl, Nat.le_of_ble_eq_true rfl⟩ rfl rfl (Nat.le_of_ble_eq_true rfl) dX5_place_34 (fun r8 σ9 H locs h hw hS => ?_)
        refine lv_aload_n hx hb dX5_place_37 rfl (lv_at hl 1 rfl) ?_
        refine lv_iconst (v := (1 : Int32)) hx hb dX5_place_38 (by decide) ?_
        refine m_cVi (TT := rT g) (As := [.int (1 : Int32)]) (rest := [.int r8, .int x2]) X hl.1 hw hS (kX5_changesFar hg h) mw_562 fX5_changesFar qM rfl rfl ⟨rfl, rfl, Nat.le_of_ble_eq_true rfl, Nat.le_of_ble_eq_true rfl⟩ rfl rfl (Nat.le_of_ble_eq_true rfl) dX5_place_39 (fun r10 σ11 H locs h hw hS => ?_)
        refine lv_isub hx hb dX5_place_42 ?_
        refine lv_icmp_lt (tgt := 48) hx hb dX5_place_43 (by decide) (fun hc => ?_) (fun hc => ?_)
        · replace h := h.1 hc
          refine lv_ldc2 (v := (-2147483647 : Int64)) hx hb hown (hts _ mw_590) dX5_place_48 ?_
          refine lv_lstore (lv' := [(5, .long (-2147483647 : Int64)), (3, .long (-9223372036854775808 : Int64)), (0, .ref (g.1 5000)), (1, .int x1), (2, .int x2)]) hx hb dX5_place_51 hl (by decide) rfl (fun ls hl => ?_)
          refine lv_ldc2 (v := (2147483648 : Int64)) hx hb hown (hts _ mw_591) dX5_place_53 ?_
          refine lv_lstore (lv' := [(7, .long (2147483648 : Int64)), (5, .long (-2147483647 : Int64)), (3, .long (-9223372036854775808 : Int64)), (0, .ref (g.1 5000)), (1, .int x1), (2, .int x2)]) hx hb dX5_place_56 hl (by decide) rfl (fun ls hl => ?_)
          refine lv_aload_n hx hb dX5_place_58 rfl (lv_at hl 3 rfl) ?_
          refine lv_lload hx hb dX5_place_59 (lv_at hl 1 rfl) ?_
          refine m_cVi (TT := rT g) (As := [.long (-2147483647 : Int64)]) (rest := []) X hl.1 hw hS (kX5_below hg h) mw_592 fX5_below qM rfl rfl ⟨rfl, rfl, Nat.le_of_ble_eq_true rfl, Nat.le_of_ble_eq_true rfl⟩ rfl rfl (Nat.le_of_ble_eq_true rfl) dX5_place_61 (fun r12 σ13 H locs h hw hS => ?_)
          refine lv_iload_n hx hb dX5_place_64 rfl (lv_at hl 5 rfl) ?_
          refine lv_icmp_gt (tgt := 78) hx hb dX5_place_65 (by decide) (fun hc => ?_) (fun hc => ?_)
          · replace h := h.1 hc
            exact wX5_place_78 hg X hr (-9223372036854775808 : Int64) _ h H locs ls hw hS (lv_sub hl [3, 4, 5, 2] rfl)
          · replace h := h.2 hc
            refine lv_aload_n hx hb dX5_place_68 rfl (lv_at hl 3 rfl) ?_
            refine lv_lload hx hb dX5_place_69 (lv_at hl 0 rfl) ?_
            refine m_cVi (TT := rT g) (As := [.long (2147483648 : Int64)]) (rest := []) X hl.1 hw hS (kX5_below hg h) mw_592 fX5_below qM rfl rfl ⟨rfl, rfl, Nat.le_of_ble_eq_true rfl, Nat.le_of_ble_eq_true rfl⟩ rfl rfl (Nat.le_of_ble_eq_true rfl) dX5_place_71 (fun r14 σ15 H locs h hw hS => ?_)
            refine lv_iload_n hx hb dX5_place_74 rfl (lv_at hl 5 rfl) ?_
            refine lv_icmp_gt (tgt := 80) hx hb dX5_place_75 (by decide) (fun hc => ?_) (fun hc => ?_)
            · replace h := h.1 hc
              obtain ⟨n9, h⟩ := h
              exact wX5_place_80 hg X hr n9 (-2147483647 : Int64) (2147483648 : Int64) _ h H locs ls hw hS (lv_sub hl [3, 4, 5, 1, 0] rfl)
            · replace h := h.2 hc
              exact wX5_place_78 hg X hr (-9223372036854775808 : Int64) _ h H locs ls hw hS (lv_sub hl [3, 4, 5, 2] rfl)
        · replace h := h.2 hc
          refine lv_lload_n hx hb dX5_place_46 rfl (lv_at hl 0 rfl) ?_
          exact m_lret X hr hw hS h dX5_place_47
      · replace h := h.2 hc
        exact wX5_place_24 hg X hr (-9223372036854775808 : Int64) _ h H locs ls hw hS (lv_sub hl [1, 2, 3, 0] rfl)
def wpX5_place (x1 : Int32) (x2 : Int32) (σ : RS) (Q : Int64 → RS → Prop) : Prop := wpX5_place_0 x1 x2 Q σ
theorem kX5_place {l : Launch} {D : va_G} {A : Nat → Prop} {g : mG} (hg : inj g) {x1 : Int32} {x2 : Int32} {σ : RS} {Q : Int64 → RS → Prop} (h : wpX5_place x1 x2 σ Q) : Met l yX5_place (Cond.code yX5_place cX5_place 11 (some .long) :: wsA) rmX5_place (mPc D (tyG g) A (rT g σ) [.ref (g.1 5000), .int x1, .int x2]) (va_Ql Q (fun u t => wd D A (rT g u) t.heap) A) 0 0 A :=
  m_met (by decide +kernel) (Nat.le_of_ble_eq_true rfl) (fun p e s m below meth c X hr H locs ls hw hS hl => wX5_place_0 hg X hr σ h H locs ls hw hS (lv_sub hl [0, 1, 2] rfl))
theorem fX5_place : vfit yX5_place cX5_place 11 (some .long) 2 := ⟨mw_586, mw_587, mw_5, mw_588, by decide +kernel, by decide +kernel, by decide +kernel⟩
/-! BigPolysModel.degree(I)I -/
def rmX5_degree : Room := { frames := 1, cells := 0, slots := 0, locals := 20 }
def wpX5_degree_0 (x1 : Int32) (Q : Int32 → RS → Prop) (σ : RS) : Prop :=
  wpX5_isRegister x1 σ (fun (r1 : Int32) (σ2 : RS) =>
    (r1 = 0 →
      Q (-2 : Int32) σ2) ∧
    (¬ r1 = 0 →
      vp_in x1 24 ∧ (
      Q (rD σ2 x1.toNatClampNeg) σ2)))
set_option maxRecDepth 100000 in
set_option maxHeartbeats 4000000 in
theorem wX5_degree_0 {p : Program} {l : Launch} {e : Env} {s : State} {m : MethodId} {args : Array Value} {below : List Frame} {meth : Method} {c : Code} {D : va_G} {A : Nat → Prop} {g : mG} (hg : inj g) {x1 : Int32} (X : cx p m meth c s args cX5_degree 2 RX5 D (tyG g)) (hr : meth.sig.returnType = (some .int)) {Q : Int32 → RS → Prop} : ∀ (σ : RS), wpX5_degree_0 x1 Q σ → cW p l e rmX5_degree s m args below meth c (MQ below (va_Qi Q (fun u t => wd D A (rT g u) t.heap) A) args s 0 0 A) D A (rT g σ) 0 2 [(0, .ref (g.1 5000)), (1, .int x1)] := by
  obtain ⟨hx, hb, hml, hown, hts, hK, hlk⟩ := id X
  intro σ h H locs ls hw hS hl
  unfold wpX5_degree_0 at h
  refine lv_iload_n hx hb dX5_degree_0 rfl (lv_at hl 1 rfl) ?_
  refine m_cSi (TT := rT g) (As := [.int x1]) (rest := []) X hl.1 hw hS (kX5_isRegister hg h) mw_113 fX5_isRegister ⟨rfl, rfl, Nat.le_of_ble_eq_true rfl, Nat.le_of_ble_eq_true rfl⟩ rfl rfl (Nat.le_of_ble_eq_true rfl) dX5_degree_1 (fun r1 σ2 H locs h hw hS => ?_)
  refine lv_if_eq (tgt := 16) hx hb dX5_degree_4 (by decide) (fun hc => ?_) (fun hc => ?_)
  · replace h := h.1 hc
    refine lv_bipush (v := (-2 : Int32)) hx hb dX5_degree_16 (by decide) ?_
    exact m_iret X hr hw hS h dX5_degree_18
  · replace h := h.2 hc
    refine lv_aload_n hx hb dX5_degree_7 rfl (lv_at hl 0 rfl) ?_
    refine m_get (v := .ref (g.1 5004)) X hw qM rfl inA_X5 3 (by decide) mw_80 rfl dX5_degree_8 ?_
    refine lv_iload_n hx hb dX5_degree_11 rfl (lv_at hl 1 rfl) ?_
    obtain ⟨hi, h⟩ := h
    refine m_iald X hw qD 0 rfl hi dX5_degree_12 ?_
    refine lv_goto (tgt := 18) hx hb dX5_degree_13 (by decide) ?_
    exact m_iret X hr hw hS h dX5_degree_18
def wpX5_degree (x1 : Int32) (σ : RS) (Q : Int32 → RS → Prop) : Prop := wpX5_degree_0 x1 Q σ
theorem kX5_degree {l : Launch} {D : va_G} {A : Nat → Prop} {g : mG} (hg : inj g) {x1 : Int32} {σ : RS} {Q : Int32 → RS → Prop} (h : wpX5_degree x1 σ Q) : Met l yX5_degree (Cond.code yX5_degree cX5_degree 2 (some .int) :: wsA) rmX5_degree (mPc D (tyG g) A (rT g σ) [.ref (g.1 5000), .int x1]) (va_Qi Q (fun u t => wd D A (rT g u) t.heap) A) 0 0 A :=
  m_met (by decide +kernel) (Nat.le_of_ble_eq_true rfl) (fun p e s m below meth c X hr H locs ls hw hS hl => wX5_degree_0 hg X hr σ h H locs ls hw hS (lv_sub hl [0, 1] rfl))
theorem fX5_degree : vfit yX5_degree cX5_degree 2 (some .int) 1 := ⟨mw_601, mw_602, mw_5, mw_603, by decide +kernel, by decide +kernel, by decide +kernel⟩
/-! BigPolysModel.signOf(II)I -/
def rmX5_signOf : Room := { frames := 1, cells := 0, slots := 0, locals := 21 }
def wpX5_signOf_27 (x1 : Int32) (x2 : Int32) (Q : Int32 → RS → Prop) (σ : RS) : Prop :=
  Q (2 : Int32) σ
set_option maxRecDepth 100000 in
set_option maxHeartbeats 4000000 in
theorem wX5_signOf_27 {p : Program} {l : Launch} {e : Env} {s : State} {m : MethodId} {args : Array Value} {below : List Frame} {meth : Method} {c : Code} {D : va_G} {A : Nat → Prop} {g : mG} (hg : inj g) {x1 : Int32} {x2 : Int32} (X : cx p m meth c s args cX5_signOf 3 RX5 D (tyG g)) (hr : meth.sig.returnType = (some .int)) {Q : Int32 → RS → Prop} : ∀ (σ : RS), wpX5_signOf_27 x1 x2 Q σ → cW p l e rmX5_signOf s m args below meth c (MQ below (va_Qi Q (fun u t => wd D A (rT g u) t.heap) A) args s 0 0 A) D A (rT g σ) 27 3 [(0, .ref (g.1 5000)), (1, .int x1), (2, .int x2)] := by
  obtain ⟨hx, hb, hml, hown, hts, hK, hlk⟩ := id X
  intro σ h H locs ls hw hS hl
  unfold wpX5_signOf_27 at h
  refine lv_iconst (v := (2 : Int32)) hx hb dX5_signOf_27 (by decide) ?_
  exact m_iret X hr hw hS h dX5_signOf_28
def wpX5_signOf_0 (x1 : Int32) (x2 : Int32) (Q : Int32 → RS → Prop) (σ : RS) : Prop :=
  wpX5_isRegister x1 σ (fun (r1 : Int32) (σ2 : RS) =>
    (r1 = 0 →
      wpX5_signOf_27 x1 x2 Q σ2) ∧
    (¬ r1 = 0 →
      wpX5_isPower x2 σ2 (fun (r3 : Int32) (σ4 : RS) =>
        (r3 = 0 →
          wpX5_signOf_27 x1 x2 Q σ4) ∧
        (¬ r3 = 0 →
          wpX5_at x1 x2 σ4 (fun (r5 : Int32) (σ6 : RS) =>
            vp_in r5 227 ∧ (
            Q (rG σ6 r5.toNatClampNeg) σ6))))))
set_option maxRecDepth 100000 in
set_option maxHeartbeats 4000000 in
theorem wX5_signOf_0 {p : Program} {l : Launch} {e : Env} {s : State} {m : MethodId} {args : Array Value} {below : List Frame} {meth : Method} {c : Code} {D : va_G} {A : Nat → Prop} {g : mG} (hg : inj g) {x1 : Int32} {x2 : Int32} (X : cx p m meth c s args cX5_signOf 3 RX5 D (tyG g)) (hr : meth.sig.returnType = (some .int)) {Q : Int32 → RS → Prop} : ∀ (σ : RS), wpX5_signOf_0 x1 x2 Q σ → cW p l e rmX5_signOf s m args below meth c (MQ below (va_Qi Q (fun u t => wd D A (rT g u) t.heap) A) args s 0 0 A) D A (rT g σ) 0 3 [(0, .ref (g.1 5000)), (1, .int x1), (2, .int x2)] := by
  obtain ⟨hx, hb, hml, hown, hts, hK, hlk⟩ := id X
  intro σ h H locs ls hw hS hl
  unfold wpX5_signOf_0 at h
  refine lv_iload_n hx hb dX5_signOf_0 rfl (lv_at hl 1 rfl) ?_
  refine m_cSi (TT := rT g) (As := [.int x1]) (rest := []) X hl.1 hw hS (kX5_isRegister hg h) mw_113 fX5_isRegister ⟨rfl, rfl, Nat.le_of_ble_eq_true rfl, Nat.le_of_ble_eq_true rfl⟩ rfl rfl (Nat.le_of_ble_eq_true rfl) dX5_signOf_1 (fun r1 σ2 H locs h hw hS => ?_)
  refine lv_if_eq (tgt := 27) hx hb dX5_signOf_4 (by decide) (fun hc => ?_) (fun hc => ?_)
  · replace h := h.1 hc
    exact wX5_signOf_27 hg X hr _ h H locs ls hw hS (lv_sub hl [0, 1, 2] rfl)
  · replace h := h.2 hc
    refine lv_iload_n hx hb dX5_signOf_7 rfl (lv_at hl 2 rfl) ?_
    refine m_cSi (TT := rT g) (As := [.int x2]) (rest := []) X hl.1 hw hS (kX5_isPower hg h) mw_116 fX5_isPower ⟨rfl, rfl, Nat.le_of_ble_eq_true rfl, Nat.le_of_ble_eq_true rfl⟩ rfl rfl (Nat.le_of_ble_eq_true rfl) dX5_signOf_8 (fun r3 σ4 H locs h hw hS => ?_)
    refine lv_if_eq (tgt := 27) hx hb dX5_signOf_11 (by decide) (fun hc => ?_) (fun hc => ?_)
    · replace h := h.1 hc
      exact wX5_signOf_27 hg X hr _ h H locs ls hw hS (lv_sub hl [0, 1, 2] rfl)
    · replace h := h.2 hc
      refine lv_aload_n hx hb dX5_signOf_14 rfl (lv_at hl 0 rfl) ?_
      refine m_get (v := .ref (g.1 5003)) X hw qM rfl inA_X5 2 (by decide) mw_79 rfl dX5_signOf_15 ?_
      refine lv_iload_n hx hb dX5_signOf_18 rfl (lv_at hl 1 rfl) ?_
      refine lv_iload_n hx hb dX5_signOf_19 rfl (lv_at hl 2 rfl) ?_
      refine m_cSi (TT := rT g) (As := [.int x1, .int x2]) (rest := [.ref (g.1 5003)]) X hl.1 hw hS (kX5_at hg h) mw_119 fX5_at ⟨rfl, rfl, Nat.le_of_ble_eq_true rfl, Nat.le_of_ble_eq_true rfl⟩ rfl rfl (Nat.le_of_ble_eq_true rfl) dX5_signOf_20 (fun r5 σ6 H locs h hw hS => ?_)
      obtain ⟨hi, h⟩ := h
      refine m_iald X hw qG 0 rfl hi dX5_signOf_23 ?_
      refine lv_goto (tgt := 28) hx hb dX5_signOf_24 (by decide) ?_
      exact m_iret X hr hw hS h dX5_signOf_28
def wpX5_signOf (x1 : Int32) (x2 : Int32) (σ : RS) (Q : Int32 → RS → Prop) : Prop := wpX5_signOf_0 x1 x2 Q σ
theorem kX5_signOf {l : Launch} {D : va_G} {A : Nat → Prop} {g : mG} (hg : inj g) {x1 : Int32} {x2 : Int32} {σ : RS} {Q : Int32 → RS → Prop} (h : wpX5_signOf x1 x2 σ Q) : Met l yX5_signOf (Cond.code yX5_signOf cX5_signOf 3 (some .int) :: wsA) rmX5_signOf (mPc D (tyG g) A (rT g σ) [.ref (g.1 5000), .int x1, .int x2]) (va_Qi Q (fun u t => wd D A (rT g u) t.heap) A) 0 0 A :=
  m_met (by decide +kernel) (Nat.le_of_ble_eq_true rfl) (fun p e s m below meth c X hr H locs ls hw hS hl => wX5_signOf_0 hg X hr σ h H locs ls hw hS (lv_sub hl [0, 1, 2] rfl))
theorem fX5_signOf : vfit yX5_signOf cX5_signOf 3 (some .int) 2 := ⟨mw_609, mw_610, mw_5, mw_611, by decide +kernel, by decide +kernel, by decide +kernel⟩
/-! BigPolysModel.words(II)I -/
def rmX5_words : Room := { frames := 1, cells := 0, slots := 0, locals := 24 }
def wpX5_words_32 (x1 : Int32) (x2 : Int32) (Q : Int32 → RS → Prop) (σ : RS) : Prop :=
  Q (-1 : Int32) σ
set_option maxRecDepth 100000 in
set_option maxHeartbeats 4000000 in
theorem wX5_words_32 {p : Program} {l : Launch} {e : Env} {s : State} {m : MethodId} {args : Array Value} {below : List Frame} {meth : Method} {c : Code} {D : va_G} {A : Nat → Prop} {g : mG} (hg : inj g) {x1 : Int32} {x2 : Int32} (X : cx p m meth c s args cX5_words 3 RX5 D (tyG g)) (hr : meth.sig.returnType = (some .int)) {Q : Int32 → RS → Prop} : ∀ (σ : RS), wpX5_words_32 x1 x2 Q σ → cW p l e rmX5_words s m args below meth c (MQ below (va_Qi Q (fun u t => wd D A (rT g u) t.heap) A) args s 0 0 A) D A (rT g σ) 32 3 [(0, .ref (g.1 5000)), (1, .int x1), (2, .int x2)] := by
  obtain ⟨hx, hb, hml, hown, hts, hK, hlk⟩ := id X
  intro σ h H locs ls hw hS hl
  unfold wpX5_words_32 at h
  refine lv_iconst (v := (-1 : Int32)) hx hb dX5_words_32 (by decide) ?_
  exact m_iret X hr hw hS h dX5_words_33
def wpX5_words_0 (x1 : Int32) (x2 : Int32) (Q : Int32 → RS → Prop) (σ : RS) : Prop :=
  wpX5_isRegister x1 σ (fun (r1 : Int32) (σ2 : RS) =>
    (r1 = 0 →
      wpX5_words_32 x1 x2 Q σ2) ∧
    (¬ r1 = 0 →
      wpX5_isPower x2 σ2 (fun (r3 : Int32) (σ4 : RS) =>
        (r3 = 0 →
          wpX5_words_32 x1 x2 Q σ4) ∧
        (¬ r3 = 0 →
          wpX5_at x1 x2 σ4 (fun (r5 : Int32) (σ6 : RS) =>
            wpX5_bitsOf r5 σ6 (fun (r7 : Int32) (σ8 : RS) =>
              Q ((r7 + (30 : Int32)) / (31 : Int32)) σ8))))))
set_option maxRecDepth 100000 in
set_option maxHeartbeats 4000000 in
theorem wX5_words_0 {p : Program} {l : Launch} {e : Env} {s : State} {m : MethodId} {args : Array Value} {below : List Frame} {meth : Method} {c : Code} {D : va_G} {A : Nat → Prop} {g : mG} (hg : inj g) {x1 : Int32} {x2 : Int32} (X : cx p m meth c s args cX5_words 3 RX5 D (tyG g)) (hr : meth.sig.returnType = (some .int)) {Q : Int32 → RS → Prop} : ∀ (σ : RS), wpX5_words_0 x1 x2 Q σ → cW p l e rmX5_words s m args below meth c (MQ below (va_Qi Q (fun u t => wd D A (rT g u) t.heap) A) args s 0 0 A) D A (rT g σ) 0 3 [(0, .ref (g.1 5000)), (1, .int x1), (2, .int x2)] := by
  obtain ⟨hx, hb, hml, hown, hts, hK, hlk⟩ := id X
  intro σ h H locs ls hw hS hl
  unfold wpX5_words_0 at h
  refine lv_iload_n hx hb dX5_words_0 rfl (lv_at hl 1 rfl) ?_
  refine m_cSi (TT := rT g) (As := [.int x1]) (rest := []) X hl.1 hw hS (kX5_isRegister hg h) mw_113 fX5_isRegister ⟨rfl, rfl, Nat.le_of_ble_eq_true rfl, Nat.le_of_ble_eq_true rfl⟩ rfl rfl (Nat.le_of_ble_eq_true rfl) dX5_words_1 (fun r1 σ2 H locs h hw hS => ?_)
  refine lv_if_eq (tgt := 32) hx hb dX5_words_4 (by decide) (fun hc => ?_) (fun hc => ?_)
  · replace h := h.1 hc
    exact wX5_words_32 hg X hr _ h H locs ls hw hS (lv_sub hl [0, 1, 2] rfl)
  · replace h := h.2 hc
    refine lv_iload_n hx hb dX5_words_7 rfl (lv_at hl 2 rfl) ?_
    refine m_cSi (TT := rT g) (As := [.int x2]) (rest := []) X hl.1 hw hS (kX5_isPower hg h) mw_116 fX5_isPower ⟨rfl, rfl, Nat.le_of_ble_eq_true rfl, Nat.le_of_ble_eq_true rfl⟩ rfl rfl (Nat.le_of_ble_eq_true rfl) dX5_words_8 (fun r3 σ4 H locs h hw hS => ?_)
    refine lv_if_eq (tgt := 32) hx hb dX5_words_11 (by decide) (fun hc => ?_) (fun hc => ?_)
    · replace h := h.1 hc
      exact wX5_words_32 hg X hr _ h H locs ls hw hS (lv_sub hl [0, 1, 2] rfl)
    · replace h := h.2 hc
      refine lv_aload_n hx hb dX5_words_14 rfl (lv_at hl 0 rfl) ?_
      refine lv_iload_n hx hb dX5_words_15 rfl (lv_at hl 1 rfl) ?_
      refine lv_iload_n hx hb dX5_words_16 rfl (lv_at hl 2 rfl) ?_
      refine m_cSi (TT := rT g) (As := [.int x1, .int x2]) (rest := [.ref (g.1 5000)]) X hl.1 hw hS (kX5_at hg h) mw_119 fX5_at ⟨rfl, rfl, Nat.le_of_ble_eq_true rfl, Nat.le_of_ble_eq_true rfl⟩ rfl rfl (Nat.le_of_ble_eq_true rfl) dX5_words_17 (fun r5 σ6 H locs h hw hS => ?_)
      refine m_cVi (TT := rT g) (As := [.int r5]) (rest := []) X hl.1 hw hS (kX5_bitsOf hg h) mw_235 fX5_bitsOf qM rfl rfl ⟨rfl, rfl, Nat.le_of_ble_eq_true rfl, Nat.le_of_ble_eq_true rfl⟩ rfl rfl (Nat.le_of_ble_eq_true rfl) dX5_words_20 (fun r7 σ8 H locs h hw hS => ?_)
      refine lv_bipush (v := (30 : Int32)) hx hb dX5_words_23 (by decide) ?_
      refine lv_iadd hx hb dX5_words_25 ?_
      refine lv_bipush (v := (31 : Int32)) hx hb dX5_words_26 (by decide) ?_
      refine lv_idiv hx hb dX5_words_28 (by decide) ?_
      refine lv_goto (tgt := 33) hx hb dX5_words_29 (by decide) ?_
      exact m_iret X hr hw hS h dX5_words_33
def wpX5_words (x1 : Int32) (x2 : Int32) (σ : RS) (Q : Int32 → RS → Prop) : Prop := wpX5_words_0 x1 x2 Q σ
theorem kX5_words {l : Launch} {D : va_G} {A : Nat → Prop} {g : mG} (hg : inj g) {x1 : Int32} {x2 : Int32} {σ : RS} {Q : Int32 → RS → Prop} (h : wpX5_words x1 x2 σ Q) : Met l yX5_words (Cond.code yX5_words cX5_words 3 (some .int) :: wsA) rmX5_words (mPc D (tyG g) A (rT g σ) [.ref (g.1 5000), .int x1, .int x2]) (va_Qi Q (fun u t => wd D A (rT g u) t.heap) A) 0 0 A :=
  m_met (by decide +kernel) (Nat.le_of_ble_eq_true rfl) (fun p e s m below meth c X hr H locs ls hw hS hl => wX5_words_0 hg X hr σ h H locs ls hw hS (lv_sub hl [0, 1, 2] rfl))
theorem fX5_words : vfit yX5_words cX5_words 3 (some .int) 2 := ⟨mw_617, mw_618, mw_5, mw_619, by decide +kernel, by decide +kernel, by decide +kernel⟩
/-! BigPolysModel.wordOf(III)I -/
def rmX5_wordOf : Room := { frames := 2, cells := 0, slots := 0, locals := 46 }
def wpX5_wordOf_82 (x1 : Int32) (x2 : Int32) (x3 : Int32) (Q : Int32 → RS → Prop) (N30 : Int32 → Int32 → Int32 → RS → Prop) (i4 : Int32) (i5 : Int32) (i6 : Int32) (i7 : Int32) (l8 : Int64) (σ : RS) : Prop :=
  ∀ a1 : Int32, a1 = (i5 <<< ((1 : Int32) &&& 31)) ||| (((jlshr l8 (i7 - i7 / (28 : Int32) * (28 : Int32))) &&& (1 : Int64)).toInt32) →
  ∀ a2 : Int32, a2 = i6 + (-1 : Int32) →
  N30 i4 a1 a2 σ
set_option maxRecDepth 100000 in
set_option maxHeartbeats 4000000 in
theorem wX5_wordOf_82 {p : Program} {l : Launch} {e : Env} {s : State} {m : MethodId} {args : Array Value} {below : List Frame} {meth : Method} {c : Code} {D : va_G} {A : Nat → Prop} {g : mG} (hg : inj g) {x1 : Int32} {x2 : Int32} {x3 : Int32} (X : cx p m meth c s args cX5_wordOf 10 RX5 D (tyG g)) (hr : meth.sig.returnType = (some .int)) {Q : Int32 → RS → Prop} {N30 : Int32 → Int32 → Int32 → RS → Prop} (hN30 : ∀ (i4 : Int32) (i5 : Int32) (i6 : Int32) (σ : RS), N30 i4 i5 i6 σ → cW p l e rmX5_wordOf s m args below meth c (MQ below (va_Qi Q (fun u t => wd D A (rT g u) t.heap) A) args s 0 0 A) D A (rT g σ) 30 10 [(0, .ref (g.1 5000)), (1, .int x1), (2, .int x2), (3, .int x3), (4, .int i4), (5, .int i5), (6, .int i6)]) : ∀ (i4 : Int32) (i5 : Int32) (i6 : Int32) (i7 : Int32) (l8 : Int64) (σ : RS), wpX5_wordOf_82 x1 x2 x3 Q N30 i4 i5 i6 i7 l8 σ → cW p l e rmX5_wordOf s m args below meth c (MQ below (va_Qi Q (fun u t => wd D A (rT g u) t.heap) A) args s 0 0 A) D A (rT g σ) 82 10 [(0, .ref (g.1 5000)), (1, .int x1), (2, .int x2), (3, .int x3), (4, .int i4), (5, .int i5), (6, .int i6), (7, .int i7), (8, .long l8)] := by
  obtain ⟨hx, hb, hml, hown, hts, hK, hlk⟩ := id X
  intro i4 i5 i6 i7 l8 σ h H locs ls hw hS hl
  unfold wpX5_wordOf_82 at h
  refine lv_iload hx hb dX5_wordOf_82 (lv_at hl 5 rfl) ?_
  refine lv_iconst (v := (1 : Int32)) hx hb dX5_wordOf_84 (by decide) ?_
  refine lv_ishl hx hb dX5_wordOf_85 ?_
  refine lv_lload hx hb dX5_wordOf_86 (lv_at hl 8 rfl) ?_
  refine lv_iload hx hb dX5_wordOf_88 (lv_at hl 7 rfl) ?_
  refine lv_bipush (v := (28 : Int32)) hx hb dX5_wordOf_90 (by decide) ?_
  refine lv_irem hx hb dX5_wordOf_92 (by decide) ?_
  refine lv_lshr (v := jlshr l8 (i7 - i7 / (28 : Int32) * (28 : Int32))) hx hb dX5_wordOf_93 rfl ?_
  refine lv_lconst (v := (1 : Int64)) hx hb dX5_wordOf_94 (by decide) ?_
  refine lv_land hx hb dX5_wordOf_95 ?_
  refine lv_l2i (v := ((jlshr l8 (i7 - i7 / (28 : Int32) * (28 : Int32))) &&& (1 : Int64)).toInt32) hx hb dX5_wordOf_96 rfl ?_
  refine lv_ior hx hb dX5_wordOf_97 ?_
  refine lv_topi (fun a1 ea1 => ?_)
  replace h := h a1 ea1
  refine lv_istore (lv' := [(5, .int a1), (0, .ref (g.1 5000)), (1, .int x1), (2, .int x2), (3, .int x3), (4, .int i4), (6, .int i6), (7, .int i7), (8, .long l8)]) hx hb dX5_wordOf_98 hl (by decide) rfl (fun ls hl => ?_)
  obtain ⟨a2, ea2⟩ : ∃ z : Int32, z = i6 + (-1 : Int32) := ⟨_, rfl⟩
  replace h := h a2 ea2
  refine lv_iinc (v := a2) (lv' := [(6, .int a2), (5, .int a1), (0, .ref (g.1 5000)), (1, .int x1), (2, .int x2), (3, .int x3), (4, .int i4), (7, .int i7), (8, .long l8)]) hx hb dX5_wordOf_100 hl (k := 6) rfl (by rw [ea2]; rfl) (by decide) rfl (fun ls hl => ?_)
  refine lv_goto (tgt := 30) hx hb dX5_wordOf_103 (by decide) ?_
  exact hN30 i4 a1 a2 _ h H locs ls hw hS (lv_sub hl [2, 3, 4, 5, 6, 1, 0] rfl)
def wbX5_wordOf_30 (x1 : Int32) (x2 : Int32) (x3 : Int32) (Q : Int32 → RS → Prop) (N30 : Int32 → Int32 → Int32 → RS → Prop) (i4 : Int32) (i5 : Int32) (i6 : Int32) (σ : RS) : Prop :=
  (i6 < 0 →
    Q i5 σ) ∧
  (¬ i6 < 0 →
    ∀ a3 : Int32, a3 = ((31 : Int32) * x3) + i6 →
    vp_in i4 227 ∧ (
    ((rS σ i4.toNatClampNeg) ≤ (a3 / (28 : Int32)) →
      wpX5_wordOf_82 x1 x2 x3 Q N30 i4 i5 i6 a3 (0 : Int64) σ) ∧
    (¬ (rS σ i4.toNatClampNeg) ≤ (a3 / (28 : Int32)) →
      vp_in (((440 : Int32) * i4) + (a3 / (28 : Int32))) 99880 ∧ (
      ∀ b4 : Int64, b4 = rL σ (((440 : Int32) * i4) + (a3 / (28 : Int32))).toNatClampNeg →
      wpX5_wordOf_82 x1 x2 x3 Q N30 i4 i5 i6 a3 b4 σ))))
set_option maxRecDepth 100000 in
set_option maxHeartbeats 4000000 in
theorem wX5_wordOf_30 {p : Program} {l : Launch} {e : Env} {s : State} {m : MethodId} {args : Array Value} {below : List Frame} {meth : Method} {c : Code} {D : va_G} {A : Nat → Prop} {g : mG} (hg : inj g) {x1 : Int32} {x2 : Int32} {x3 : Int32} (X : cx p m meth c s args cX5_wordOf 10 RX5 D (tyG g)) (hr : meth.sig.returnType = (some .int)) {Q : Int32 → RS → Prop} : ∀ (n : Nat) (i4 : Int32) (i5 : Int32) (i6 : Int32) (σ : RS), lq4 (wbX5_wordOf_30 x1 x2 x3 Q) n i4 i5 i6 σ → cW p l e rmX5_wordOf s m args below meth c (MQ below (va_Qi Q (fun u t => wd D A (rT g u) t.heap) A) args s 0 0 A) D A (rT g σ) 30 10 [(0, .ref (g.1 5000)), (1, .int x1), (2, .int x2), (3, .int x3), (4, .int i4), (5, .int i5), (6, .int i6)] := by
  obtain ⟨hx, hb, hml, hown, hts, hK, hlk⟩ := id X
  intro n
  induction n with
  | zero =>
    intro i4 i5 i6 σ h
    exact h.elim
  | succ n hN30 =>
    intro i4 i5 i6 σ h H locs ls hw hS hl
    replace h : wbX5_wordOf_30 x1 x2 x3 Q (lq4 (wbX5_wordOf_30 x1 x2 x3 Q) n) i4 i5 i6 σ := h
    unfold wbX5_wordOf_30 at h
    refine lv_iload hx hb dX5_wordOf_30 (lv_at hl 6 rfl) ?_
    refine lv_if_lt (tgt := 106) hx hb dX5_wordOf_32 (by decide) (fun hc => ?_) (fun hc => ?_)
    · replace h := h.1 hc
      refine lv_iload hx hb dX5_wordOf_106 (lv_at hl 5 rfl) ?_
      exact m_iret X hr hw hS h dX5_wordOf_108
    · replace h := h.2 hc
      refine lv_bipush (v := (31 : Int32)) hx hb dX5_wordOf_35 (by decide) ?_
      refine lv_iload_n hx hb dX5_wordOf_37 rfl (lv_at hl 3 rfl) ?_
      refine lv_imul hx hb dX5_wordOf_38 ?_
      refine lv_iload hx hb dX5_wordOf_39 (lv_at hl 6 rfl) ?_
      refine lv_iadd hx hb dX5_wordOf_41 ?_
      refine lv_topi (fun a3 ea3 => ?_)
      replace h := h a3 ea3
      refine lv_istore (lv' := [(7, .int a3), (0, .ref (g.1 5000)), (1, .int x1), (2, .int x2), (3, .int x3), (4, .int i4), (5, .int i5), (6, .int i6)]) hx hb dX5_wordOf_42 hl (by decide) rfl (fun ls hl => ?_)
      refine lv_iload hx hb dX5_wordOf_44 (lv_at hl 0 rfl) ?_
      refine lv_bipush (v := (28 : Int32)) hx hb dX5_wordOf_46 (by decide) ?_
      refine lv_idiv hx hb dX5_wordOf_48 (by decide) ?_
      refine lv_aload_n hx hb dX5_wordOf_49 rfl (lv_at hl 1 rfl) ?_
      refine m_get (v := .ref (g.1 5002)) X hw qM rfl inA_X5 1 (by decide) mw_78 rfl dX5_wordOf_50 ?_
      refine lv_iload hx hb dX5_wordOf_53 (lv_at hl 5 rfl) ?_
      obtain ⟨hi, h⟩ := h
      refine m_iald X hw qS 0 rfl hi dX5_wordOf_55 ?_
      refine lv_icmp_ge (tgt := 79) hx hb dX5_wordOf_56 (by decide) (fun hc => ?_) (fun hc => ?_)
      · replace h := h.1 hc
        refine lv_lconst (v := (0 : Int64)) hx hb dX5_wordOf_79 (by decide) ?_
        refine lv_lstore (lv' := [(8, .long (0 : Int64)), (7, .int a3), (0, .ref (g.1 5000)), (1, .int x1), (2, .int x2), (3, .int x3), (4, .int i4), (5, .int i5), (6, .int i6)]) hx hb dX5_wordOf_80 hl (by decide) rfl (fun ls hl => ?_)
        exact wX5_wordOf_82 hg X hr hN30 i4 i5 i6 a3 (0 : Int64) _ h H locs ls hw hS (lv_sub hl [2, 3, 4, 5, 6, 7, 8, 1, 0] rfl)
      · replace h := h.2 hc
        refine lv_aload_n hx hb dX5_wordOf_59 rfl (lv_at hl 1 rfl) ?_
        refine m_get (v := .ref (g.1 5001)) X hw qM rfl inA_X5 0 (by decide) mw_77 rfl dX5_wordOf_60 ?_
        refine lv_sipush (v := (440 : Int32)) hx hb dX5_wordOf_63 (by decide) ?_
        refine lv_iload hx hb dX5_wordOf_66 (lv_at hl 5 rfl) ?_
        refine lv_imul hx hb dX5_wordOf_68 ?_
        refine lv_iload hx hb dX5_wordOf_69 (lv_at hl 0 rfl) ?_
        refine lv_bipush (v := (28 : Int32)) hx hb dX5_wordOf_71 (by decide) ?_
        refine lv_idiv hx hb dX5_wordOf_73 (by decide) ?_
        refine lv_iadd hx hb dX5_wordOf_74 ?_
        obtain ⟨hi, h⟩ := h
        refine m_lald X hw qL 1 rfl hi dX5_wordOf_75 ?_
        refine lv_goto (tgt := 80) hx hb dX5_wordOf_76 (by decide) ?_
        refine lv_topl (fun b4 eb4 => ?_)
        replace h := h b4 eb4
        refine lv_lstore (lv' := [(8, .long b4), (7, .int a3), (0, .ref (g.1 5000)), (1, .int x1), (2, .int x2), (3, .int x3), (4, .int i4), (5, .int i5), (6, .int i6)]) hx hb dX5_wordOf_80 hl (by decide) rfl (fun ls hl => ?_)
        exact wX5_wordOf_82 hg X hr hN30 i4 i5 i6 a3 b4 _ h H locs ls hw hS (lv_sub hl [2, 3, 4, 5, 6, 7, 8, 1, 0] rfl)
def wpX5_wordOf_14 (x1 : Int32) (x2 : Int32) (x3 : Int32) (Q : Int32 → RS → Prop) (σ : RS) : Prop :=
  Q (-1 : Int32) σ
set_option maxRecDepth 100000 in
set_option maxHeartbeats 4000000 in
theorem wX5_wordOf_14 {p : Program} {l : Launch} {e : Env} {s : State} {m : MethodId} {args : Array Value} {below : List Frame} {meth : Method} {c : Code} {D : va_G} {A : Nat → Prop} {g : mG} (hg : inj g) {x1 : Int32} {x2 : Int32} {x3 : Int32} (X : cx p m meth c s args cX5_wordOf 10 RX5 D (tyG g)) (hr : meth.sig.returnType = (some .int)) {Q : Int32 → RS → Prop} : ∀ (σ : RS), wpX5_wordOf_14 x1 x2 x3 Q σ → cW p l e rmX5_wordOf s m args below meth c (MQ below (va_Qi Q (fun u t => wd D A (rT g u) t.heap) A) args s 0 0 A) D A (rT g σ) 14 10 [(0, .ref (g.1 5000)), (1, .int x1), (2, .int x2), (3, .int x3)] := by
  obtain ⟨hx, hb, hml, hown, hts, hK, hlk⟩ := id X
  intro σ h H locs ls hw hS hl
  unfold wpX5_wordOf_14 at h
  refine lv_iconst (v := (-1 : Int32)) hx hb dX5_wordOf_14 (by decide) ?_
  exact m_iret X hr hw hS h dX5_wordOf_15
def wpX5_wordOf_0 (x1 : Int32) (x2 : Int32) (x3 : Int32) (Q : Int32 → RS → Prop) (σ : RS) : Prop :=
  (x3 < 0 →
    wpX5_wordOf_14 x1 x2 x3 Q σ) ∧
  (¬ x3 < 0 →
    wpX5_words x1 x2 σ (fun (r5 : Int32) (σ6 : RS) =>
      (x3 < r5 →
        wpX5_at x1 x2 σ6 (fun (r7 : Int32) (σ8 : RS) =>
          ∃ n, lq4 (wbX5_wordOf_30 x1 x2 x3 Q) n r7 (0 : Int32) (30 : Int32) σ8)) ∧
      (¬ x3 < r5 →
        wpX5_wordOf_14 x1 x2 x3 Q σ6)))
set_option maxRecDepth 100000 in
set_option maxHeartbeats 4000000 in
theorem wX5_wordOf_0 {p : Program} {l : Launch} {e : Env} {s : State} {m : MethodId} {args : Array Value} {below : List Frame} {meth : Method} {c : Code} {D : va_G} {A : Nat → Prop} {g : mG} (hg : inj g) {x1 : Int32} {x2 : Int32} {x3 : Int32} (X : cx p m meth c s args cX5_wordOf 10 RX5 D (tyG g)) (hr : meth.sig.returnType = (some .int)) {Q : Int32 → RS → Prop} : ∀ (σ : RS), wpX5_wordOf_0 x1 x2 x3 Q σ → cW p l e rmX5_wordOf s m args below meth c (MQ below (va_Qi Q (fun u t => wd D A (rT g u) t.heap) A) args s 0 0 A) D A (rT g σ) 0 10 [(0, .ref (g.1 5000)), (1, .int x1), (2, .int x2), (3, .int x3)] := by
  obtain ⟨hx, hb, hml, hown, hts, hK, hlk⟩ := id X
  intro σ h H locs ls hw hS hl
  unfold wpX5_wordOf_0 at h
  refine lv_iload_n hx hb dX5_wordOf_0 rfl (lv_at hl 3 rfl) ?_
  refine lv_if_lt (tgt := 14) hx hb dX5_wordOf_1 (by decide) (fun hc => ?_) (fun hc => ?_)
  · replace h := h.1 hc
    exact wX5_wordOf_14 hg X hr _ h H locs ls hw hS (lv_sub hl [0, 1, 2, 3] rfl)
  · replace h := h.2 hc
    refine lv_iload_n hx hb dX5_wordOf_4 rfl (lv_at hl 3 rfl) ?_
    refine lv_aload_n hx hb dX5_wordOf_5 rfl (lv_at hl 0 rfl) ?_
    refine lv_iload_n hx hb dX5_wordOf_6 rfl (lv_at hl 1 rfl) ?_
    refine lv_iload_n hx hb dX5_wordOf_7 rfl (lv_at hl 2 rfl) ?_
    refine m_cVi (TT := rT g) (As := [.int x1, .int x2]) (rest := [.int x3]) X hl.1 hw hS (kX5_words hg h) mw_628 fX5_words qM rfl rfl ⟨rfl, rfl, Nat.le_of_ble_eq_true rfl, Nat.le_of_ble_eq_true rfl⟩ rfl rfl (Nat.le_of_ble_eq_true rfl) dX5_wordOf_8 (fun r5 σ6 H locs h hw hS => ?_)
    refine lv_icmp_lt (tgt := 16) hx hb dX5_wordOf_11 (by decide) (fun hc => ?_) (fun hc => ?_)
    · replace h := h.1 hc
      refine lv_iload_n hx hb dX5_wordOf_16 rfl (lv_at hl 1 rfl) ?_
      refine lv_iload_n hx hb dX5_wordOf_17 rfl (lv_at hl 2 rfl) ?_
      refine m_cSi (TT := rT g) (As := [.int x1, .int x2]) (rest := []) X hl.1 hw hS (kX5_at hg h) mw_119 fX5_at ⟨rfl, rfl, Nat.le_of_ble_eq_true rfl, Nat.le_of_ble_eq_true rfl⟩ rfl rfl (Nat.le_of_ble_eq_true rfl) dX5_wordOf_18 (fun r7 σ8 H locs h hw hS => ?_)
      refine lv_istore (lv' := [(4, .int r7), (0, .ref (g.1 5000)), (1, .int x1), (2, .int x2), (3, .int x3)]) hx hb dX5_wordOf_21 hl (by decide) rfl (fun ls hl => ?_)
      refine lv_iconst (v := (0 : Int32)) hx hb dX5_wordOf_23 (by decide) ?_
      refine lv_istore (lv' := [(5, .int (0 : Int32)), (4, .int r7), (0, .ref (g.1 5000)), (1, .int x1), (2, .int x2), (3, .int x3)]) hx hb dX5_wordOf_24 hl (by decide) rfl (fun ls hl => ?_)
      refine lv_bipush (v := (30 : Int32)) hx hb dX5_wordOf_26 (by decide) ?_
      refine lv_istore (lv' := [(6, .int (30 : Int32)), (5, .int (0 : Int32)), (4, .int r7), (0, .ref (g.1 5000)), (1, .int x1), (2, .int x2), (3, .int x3)]) hx hb dX5_wordOf_28 hl (by decide) rfl (fun ls hl => ?_)
      obtain ⟨n9, h⟩ := h
      exact wX5_wordOf_30 hg X hr n9 r7 (0 : Int32) (30 : Int32) _ h H locs ls hw hS (lv_sub hl [3, 4, 5, 6, 2, 1, 0] rfl)
    · replace h := h.2 hc
      exact wX5_wordOf_14 hg X hr _ h H locs ls hw hS (lv_sub hl [0, 1, 2, 3] rfl)
def wpX5_wordOf (x1 : Int32) (x2 : Int32) (x3 : Int32) (σ : RS) (Q : Int32 → RS → Prop) : Prop := wpX5_wordOf_0 x1 x2 x3 Q σ
theorem kX5_wordOf {l : Launch} {D : va_G} {A : Nat → Prop} {g : mG} (hg : inj g) {x1 : Int32} {x2 : Int32} {x3 : Int32} {σ : RS} {Q : Int32 → RS → Prop} (h : wpX5_wordOf x1 x2 x3 σ Q) : Met l yX5_wordOf (Cond.code yX5_wordOf cX5_wordOf 10 (some .int) :: wsA) rmX5_wordOf (mPc D (tyG g) A (rT g σ) [.ref (g.1 5000), .int x1, .int x2, .int x3]) (va_Qi Q (fun u t => wd D A (rT g u) t.heap) A) 0 0 A :=
  m_met (by decide +kernel) (Nat.le_of_ble_eq_true rfl) (fun p e s m below meth c X hr H locs ls hw hS hl => wX5_wordOf_0 hg X hr σ h H locs ls hw hS (lv_sub hl [0, 1, 2, 3] rfl))
theorem fX5_wordOf : vfit yX5_wordOf cX5_wordOf 10 (some .int) 3 := ⟨mw_625, mw_626, mw_5, mw_627, by decide +kernel, by decide +kernel, by decide +kernel⟩
/-! BigPolysModel.same(II)Z -/
def rmX5_same : Room := { frames := 1, cells := 0, slots := 0, locals := 23 }
def wpX5_same_82 (x1 : Int32) (x2 : Int32) (Q : Int32 → RS → Prop) (N21 : Int32 → Int32 → RS → Prop) (i3 : Int32) (i4 : Int32) (σ : RS) : Prop :=
  ∀ a1 : Int32, a1 = i4 + (1 : Int32) →
  N21 i3 a1 σ
set_option maxRecDepth 100000 in
set_option maxHeartbeats 4000000 in
theorem wX5_same_82 {p : Program} {l : Launch} {e : Env} {s : State} {m : MethodId} {args : Array Value} {below : List Frame} {meth : Method} {c : Code} {D : va_G} {A : Nat → Prop} {g : mG} (hg : inj g) {x1 : Int32} {x2 : Int32} (X : cx p m meth c s args cX5_same 5 RX5 D (tyG g)) (hr : meth.sig.returnType = (some .boolean)) {Q : Int32 → RS → Prop} {N21 : Int32 → Int32 → RS → Prop} (hN21 : ∀ (i3 : Int32) (i4 : Int32) (σ : RS), N21 i3 i4 σ → cW p l e rmX5_same s m args below meth c (MQ below (va_Qi Q (fun u t => wd D A (rT g u) t.heap) A) args s 0 0 A) D A (rT g σ) 21 5 [(0, .ref (g.1 5000)), (1, .int x1), (2, .int x2), (3, .int i3), (4, .int i4)]) : ∀ (i3 : Int32) (i4 : Int32) (σ : RS), wpX5_same_82 x1 x2 Q N21 i3 i4 σ → cW p l e rmX5_same s m args below meth c (MQ below (va_Qi Q (fun u t => wd D A (rT g u) t.heap) A) args s 0 0 A) D A (rT g σ) 82 5 [(0, .ref (g.1 5000)), (1, .int x1), (2, .int x2), (3, .int i3), (4, .int i4)] := by
  obtain ⟨hx, hb, hml, hown, hts, hK, hlk⟩ := id X
  intro i3 i4 σ h H locs ls hw hS hl
  unfold wpX5_same_82 at h
  obtain ⟨a1, ea1⟩ : ∃ z : Int32, z = i4 + (1 : Int32) := ⟨_, rfl⟩
  replace h := h a1 ea1
  refine lv_iinc (v := a1) (lv' := [(4, .int a1), (0, .ref (g.1 5000)), (1, .int x1), (2, .int x2), (3, .int i3)]) hx hb dX5_same_82 hl (k := 4) rfl (by rw [ea1]; rfl) (by decide) rfl (fun ls hl => ?_)
  refine lv_goto (tgt := 21) hx hb dX5_same_85 (by decide) ?_
  exact hN21 i3 a1 _ h H locs ls hw hS (lv_sub hl [1, 2, 3, 4, 0] rfl)
def wpX5_same_80 (x1 : Int32) (x2 : Int32) (Q : Int32 → RS → Prop) (N21 : Int32 → Int32 → RS → Prop) (i4 : Int32) (σ : RS) : Prop :=
  wpX5_same_82 x1 x2 Q N21 (0 : Int32) i4 σ
set_option maxRecDepth 100000 in
set_option maxHeartbeats 4000000 in
theorem wX5_same_80 {p : Program} {l : Launch} {e : Env} {s : State} {m : MethodId} {args : Array Value} {below : List Frame} {meth : Method} {c : Code} {D : va_G} {A : Nat → Prop} {g : mG} (hg : inj g) {x1 : Int32} {x2 : Int32} (X : cx p m meth c s args cX5_same 5 RX5 D (tyG g)) (hr : meth.sig.returnType = (some .boolean)) {Q : Int32 → RS → Prop} {N21 : Int32 → Int32 → RS → Prop} (hN21 : ∀ (i3 : Int32) (i4 : Int32) (σ : RS), N21 i3 i4 σ → cW p l e rmX5_same s m args below meth c (MQ below (va_Qi Q (fun u t => wd D A (rT g u) t.heap) A) args s 0 0 A) D A (rT g σ) 21 5 [(0, .ref (g.1 5000)), (1, .int x1), (2, .int x2), (3, .int i3), (4, .int i4)]) : ∀ (i4 : Int32) (σ : RS), wpX5_same_80 x1 x2 Q N21 i4 σ → cW p l e rmX5_same s m args below meth c (MQ below (va_Qi Q (fun u t => wd D A (rT g u) t.heap) A) args s 0 0 A) D A (rT g σ) 80 5 [(0, .ref (g.1 5000)), (1, .int x1), (2, .int x2), (4, .int i4)] := by
  obtain ⟨hx, hb, hml, hown, hts, hK, hlk⟩ := id X
  intro i4 σ h H locs ls hw hS hl
  unfold wpX5_same_80 at h
  refine lv_iconst (v := (0 : Int32)) hx hb dX5_same_80 (by decide) ?_
  refine lv_istore_n (lv' := [(3, .int (0 : Int32)), (0, .ref (g.1 5000)), (1, .int x1), (2, .int x2), (4, .int i4)]) hx hb dX5_same_81 rfl hl (by decide) rfl (fun ls hl => ?_)
  exact wX5_same_82 hg X hr hN21 (0 : Int32) i4 _ h H locs ls hw hS (lv_sub hl [1, 2, 3, 0, 4] rfl)
def wbX5_same_21 (x1 : Int32) (x2 : Int32) (Q : Int32 → RS → Prop) (N21 : Int32 → Int32 → RS → Prop) (i3 : Int32) (i4 : Int32) (σ : RS) : Prop :=
  ((9 : Int32) ≤ i4 →
    narrow .boolean (.int i3) = .int i3 ∧ Q i3 σ) ∧
  (¬ (9 : Int32) ≤ i4 →
    (i3 = 0 →
      wpX5_same_80 x1 x2 Q N21 i4 σ) ∧
    (¬ i3 = 0 →
      wpX5_at x1 i4 σ (fun (r2 : Int32) (σ3 : RS) =>
        vp_in r2 227 ∧ (
        wpX5_at x2 i4 σ3 (fun (r4 : Int32) (σ5 : RS) =>
          vp_in r4 227 ∧ (
          (¬ (rG σ3 r2.toNatClampNeg) = (rG σ5 r4.toNatClampNeg) →
            wpX5_same_80 x1 x2 Q N21 i4 σ5) ∧
          ((rG σ3 r2.toNatClampNeg) = (rG σ5 r4.toNatClampNeg) →
            wpX5_at x1 i4 σ5 (fun (r6 : Int32) (σ7 : RS) =>
              wpX5_at x2 i4 σ7 (fun (r8 : Int32) (σ9 : RS) =>
                wpX5_compareSizes r6 r8 σ9 (fun (r10 : Int32) (σ11 : RS) =>
                  (¬ r10 = 0 →
                    wpX5_same_80 x1 x2 Q N21 i4 σ11) ∧
                  (r10 = 0 →
                    wpX5_same_82 x1 x2 Q N21 (1 : Int32) i4 σ11)))))))))))
set_option maxRecDepth 100000 in
set_option maxHeartbeats 4000000 in
theorem wX5_same_21 {p : Program} {l : Launch} {e : Env} {s : State} {m : MethodId} {args : Array Value} {below : List Frame} {meth : Method} {c : Code} {D : va_G} {A : Nat → Prop} {g : mG} (hg : inj g) {x1 : Int32} {x2 : Int32} (X : cx p m meth c s args cX5_same 5 RX5 D (tyG g)) (hr : meth.sig.returnType = (some .boolean)) {Q : Int32 → RS → Prop} : ∀ (n : Nat) (i3 : Int32) (i4 : Int32) (σ : RS), lq3 (wbX5_same_21 x1 x2 Q) n i3 i4 σ → cW p l e rmX5_same s m args below meth c (MQ below (va_Qi Q (fun u t => wd D A (rT g u) t.heap) A) args s 0 0 A) D A (rT g σ) 21 5 [(0, .ref (g.1 5000)), (1, .int x1), (2, .int x2), (3, .int i3), (4, .int i4)] := by
  obtain ⟨hx, hb, hml, hown, hts, hK, hlk⟩ := id X
  intro n
  induction n with
  | zero =>
    intro i3 i4 σ h
    exact h.elim
  | succ n hN21 =>
    intro i3 i4 σ h H locs ls hw hS hl
    replace h : wbX5_same_21 x1 x2 Q (lq3 (wbX5_same_21 x1 x2 Q) n) i3 i4 σ := h
    unfold wbX5_same_21 at h
    refine lv_iload hx hb dX5_same_21 (lv_at hl 4 rfl) ?_
    refine lv_bipush (v := (9 : Int32)) hx hb dX5_same_23 (by decide) ?_
    refine lv_icmp_ge (tgt := 88) hx hb dX5_same_25 (by decide) (fun hc => ?_) (fun hc => ?_)
    · replace h := h.1 hc
      refine lv_iload_n hx hb dX5_same_88 rfl (lv_at hl 3 rfl) ?_
      exact m_zret X hr h.1 hw hS h.2 dX5_same_89
    · replace h := h.2 hc
      refine lv_iload_n hx hb dX5_same_28 rfl (lv_at hl 3 rfl) ?_
      refine lv_if_eq (tgt := 80) hx hb dX5_same_29 (by decide) (fun hc => ?_) (fun hc => ?_)
      · replace h := h.1 hc
        exact wX5_same_80 hg X hr hN21 i4 _ h H locs ls hw hS (lv_sub hl [0, 1, 2, 4] rfl)
      · replace h := h.2 hc
        refine lv_aload_n hx hb dX5_same_32 rfl (lv_at hl 0 rfl) ?_
        refine m_get (v := .ref (g.1 5003)) X hw qM rfl inA_X5 2 (by decide) mw_79 rfl dX5_same_33 ?_
        refine lv_iload_n hx hb dX5_same_36 rfl (lv_at hl 1 rfl) ?_
        refine lv_iload hx hb dX5_same_37 (lv_at hl 4 rfl) ?_
        refine m_cSi (TT := rT g) (As := [.int x1, .int i4]) (rest := [.ref (g.1 5003)]) X hl.1 hw hS (kX5_at hg h) mw_119 fX5_at ⟨rfl, rfl, Nat.le_of_ble_eq_true rfl, Nat.le_of_ble_eq_true rfl⟩ rfl rfl (Nat.le_of_ble_eq_true rfl) dX5_same_39 (fun r2 σ3 H locs h hw hS => ?_)
        obtain ⟨hi, h⟩ := h
        refine m_iald X hw qG 0 rfl hi dX5_same_42 ?_
        refine lv_aload_n hx hb dX5_same_43 rfl (lv_at hl 0 rfl) ?_
        refine m_get (v := .ref (g.1 5003)) X hw qM rfl inA_X5 2 (by decide) mw_79 rfl dX5_same_44 ?_
        refine lv_iload_n hx hb dX5_same_47 rfl (lv_at hl 2 rfl) ?_
        refine lv_iload hx hb dX5_same_48 (lv_at hl 4 rfl) ?_
        refine m_cSi (TT := rT g) (As := [.int x2, .int i4]) (rest := [.ref (g.1 5003), .int (rG σ3 r2.toNatClampNeg)]) X hl.1 hw hS (kX5_at hg h) mw_119 fX5_at ⟨rfl, rfl, Nat.le_of_ble_eq_true rfl, Nat.le_of_ble_eq_true rfl⟩ rfl rfl (Nat.le_of_ble_eq_true rfl) dX5_same_50 (fun r4 σ5 H locs h hw hS => ?_)
        obtain ⟨hi, h⟩ := h
        refine m_iald X hw qG 0 rfl hi dX5_same_53 ?_
        refine lv_icmp_ne (tgt := 80) hx hb dX5_same_54 (by decide) (fun hc => ?_) (fun hc => ?_)
        · replace h := h.1 hc
          exact wX5_same_80 hg X hr hN21 i4 _ h H locs ls hw hS (lv_sub hl [0, 1, 2, 4] rfl)
        · replace h := h.2 hc
          refine lv_aload_n hx hb dX5_same_57 rfl (lv_at hl 0 rfl) ?_
          refine lv_iload_n hx hb dX5_same_58 rfl (lv_at hl 1 rfl) ?_
          refine lv_iload hx hb dX5_same_59 (lv_at hl 4 rfl) ?_
          refine m_cSi (TT := rT g) (As := [.int x1, .int i4]) (rest := [.ref (g.1 5000)]) X hl.1 hw hS (kX5_at hg h) mw_119 fX5_at ⟨rfl, rfl, Nat.le_of_ble_eq_true rfl, Nat.le_of_ble_eq_true rfl⟩ rfl rfl (Nat.le_of_ble_eq_true rfl) dX5_same_61 (fun r6 σ7 H locs h hw hS => ?_)
          refine lv_iload_n hx hb dX5_same_64 rfl (lv_at hl 2 rfl) ?_
          refine lv_iload hx hb dX5_same_65 (lv_at hl 4 rfl) ?_
          refine m_cSi (TT := rT g) (As := [.int x2, .int i4]) (rest := [.int r6, .ref (g.1 5000)]) X hl.1 hw hS (kX5_at hg h) mw_119 fX5_at ⟨rfl, rfl, Nat.le_of_ble_eq_true rfl, Nat.le_of_ble_eq_true rfl⟩ rfl rfl (Nat.le_of_ble_eq_true rfl) dX5_same_67 (fun r8 σ9 H locs h hw hS => ?_)
          refine m_cVi (TT := rT g) (As := [.int r6, .int r8]) (rest := []) X hl.1 hw hS (kX5_compareSizes hg h) mw_163 fX5_compareSizes qM rfl rfl ⟨rfl, rfl, Nat.le_of_ble_eq_true rfl, Nat.le_of_ble_eq_true rfl⟩ rfl rfl (Nat.le_of_ble_eq_true rfl) dX5_same_70 (fun r10 σ11 H locs h hw hS => ?_)
          refine lv_if_ne (tgt := 80) hx hb dX5_same_73 (by decide) (fun hc => ?_) (fun hc => ?_)
          · replace h := h.1 hc
            exact wX5_same_80 hg X hr hN21 i4 _ h H locs ls hw hS (lv_sub hl [0, 1, 2, 4] rfl)
          · replace h := h.2 hc
            refine lv_iconst (v := (1 : Int32)) hx hb dX5_same_76 (by decide) ?_
            refine lv_goto (tgt := 81) hx hb dX5_same_77 (by decide) ?_
            refine lv_istore_n (lv' := [(3, .int (1 : Int32)), (0, .ref (g.1 5000)), (1, .int x1), (2, .int x2), (4, .int i4)]) hx hb dX5_same_81 rfl hl (by decide) rfl (fun ls hl => ?_)
            exact wX5_same_82 hg X hr hN21 (1 : Int32) i4 _ h H locs ls hw hS (lv_sub hl [1, 2, 3, 0, 4] rfl)
def wpX5_same_14 (x1 : Int32) (x2 : Int32) (Q : Int32 → RS → Prop) (σ : RS) : Prop :=
  Q (0 : Int32) σ
set_option maxRecDepth 100000 in
set_option maxHeartbeats 4000000 in
theorem wX5_same_14 {p : Program} {l : Launch} {e : Env} {s : State} {m : MethodId} {args : Array Value} {below : List Frame} {meth : Method} {c : Code} {D : va_G} {A : Nat → Prop} {g : mG} (hg : inj g) {x1 : Int32} {x2 : Int32} (X : cx p m meth c s args cX5_same 5 RX5 D (tyG g)) (hr : meth.sig.returnType = (some .boolean)) {Q : Int32 → RS → Prop} : ∀ (σ : RS), wpX5_same_14 x1 x2 Q σ → cW p l e rmX5_same s m args below meth c (MQ below (va_Qi Q (fun u t => wd D A (rT g u) t.heap) A) args s 0 0 A) D A (rT g σ) 14 5 [(0, .ref (g.1 5000)), (1, .int x1), (2, .int x2)] := by
  obtain ⟨hx, hb, hml, hown, hts, hK, hlk⟩ := id X
  intro σ h H locs ls hw hS hl
  unfold wpX5_same_14 at h
  refine lv_iconst (v := (0 : Int32)) hx hb dX5_same_14 (by decide) ?_
  exact m_zret X hr rfl hw hS h dX5_same_15
def wpX5_same_0 (x1 : Int32) (x2 : Int32) (Q : Int32 → RS → Prop) (σ : RS) : Prop :=
  wpX5_isRegister x1 σ (fun (r12 : Int32) (σ13 : RS) =>
    (r12 = 0 →
      wpX5_same_14 x1 x2 Q σ13) ∧
    (¬ r12 = 0 →
      wpX5_isRegister x2 σ13 (fun (r14 : Int32) (σ15 : RS) =>
        (¬ r14 = 0 →
          ∃ n, lq3 (wbX5_same_21 x1 x2 Q) n (1 : Int32) (0 : Int32) σ15) ∧
        (r14 = 0 →
          wpX5_same_14 x1 x2 Q σ15))))
set_option maxRecDepth 100000 in
set_option maxHeartbeats 4000000 in
theorem wX5_same_0 {p : Program} {l : Launch} {e : Env} {s : State} {m : MethodId} {args : Array Value} {below : List Frame} {meth : Method} {c : Code} {D : va_G} {A : Nat → Prop} {g : mG} (hg : inj g) {x1 : Int32} {x2 : Int32} (X : cx p m meth c s args cX5_same 5 RX5 D (tyG g)) (hr : meth.sig.returnType = (some .boolean)) {Q : Int32 → RS → Prop} : ∀ (σ : RS), wpX5_same_0 x1 x2 Q σ → cW p l e rmX5_same s m args below meth c (MQ below (va_Qi Q (fun u t => wd D A (rT g u) t.heap) A) args s 0 0 A) D A (rT g σ) 0 5 [(0, .ref (g.1 5000)), (1, .int x1), (2, .int x2)] := by
  obtain ⟨hx, hb, hml, hown, hts, hK, hlk⟩ := id X
  intro σ h H locs ls hw hS hl
  unfold wpX5_same_0 at h
  refine lv_iload_n hx hb dX5_same_0 rfl (lv_at hl 1 rfl) ?_
  refine m_cSi (TT := rT g) (As := [.int x1]) (rest := []) X hl.1 hw hS (kX5_isRegister hg h) mw_113 fX5_isRegister ⟨rfl, rfl, Nat.le_of_ble_eq_true rfl, Nat.le_of_ble_eq_true rfl⟩ rfl rfl (Nat.le_of_ble_eq_true rfl) dX5_same_1 (fun r12 σ13 H locs h hw hS => ?_)
  refine lv_if_eq (tgt := 14) hx hb dX5_same_4 (by decide) (fun hc => ?_) (fun hc => ?_)
  · replace h := h.1 hc
    exact wX5_same_14 hg X hr _ h H locs ls hw hS (lv_sub hl [0, 1, 2] rfl)
  · replace h := h.2 hc
    refine lv_iload_n hx hb dX5_same_7 rfl (lv_at hl 2 rfl) ?_
    refine m_cSi (TT := rT g) (As := [.int x2]) (rest := []) X hl.1 hw hS (kX5_isRegister hg h) mw_113 fX5_isRegister ⟨rfl, rfl, Nat.le_of_ble_eq_true rfl, Nat.le_of_ble_eq_true rfl⟩ rfl rfl (Nat.le_of_ble_eq_true rfl) dX5_same_8 (fun r14 σ15 H locs h hw hS => ?_)
    refine lv_if_ne (tgt := 16) hx hb dX5_same_11 (by decide) (fun hc => ?_) (fun hc => ?_)
    · replace h := h.1 hc
      refine lv_iconst (v := (1 : Int32)) hx hb dX5_same_16 (by decide) ?_
      refine lv_istore_n (lv' := [(3, .int (1 : Int32)), (0, .ref (g.1 5000)), (1, .int x1), (2, .int x2)]) hx hb dX5_same_17 rfl hl (by decide) rfl (fun ls hl => ?_)
      refine lv_iconst (v := (0 : Int32)) hx hb dX5_same_18 (by decide) ?_
      refine lv_istore (lv' := [(4, .int (0 : Int32)), (3, .int (1 : Int32)), (0, .ref (g.1 5000)), (1, .int x1), (2, .int x2)]) hx hb dX5_same_19 hl (by decide) rfl (fun ls hl => ?_)
      obtain ⟨n9, h⟩ := h
      exact wX5_same_21 hg X hr n9 (1 : Int32) (0 : Int32) _ h H locs ls hw hS (lv_sub hl [2, 3, 4, 1, 0] rfl)
    · replace h := h.2 hc
      exact wX5_same_14 hg X hr _ h H locs ls hw hS (lv_sub hl [0, 1, 2] rfl)
def wpX5_same (x1 : Int32) (x2 : Int32) (σ : RS) (Q : Int32 → RS → Prop) : Prop := wpX5_same_0 x1 x2 Q σ
theorem kX5_same {l : Launch} {D : va_G} {A : Nat → Prop} {g : mG} (hg : inj g) {x1 : Int32} {x2 : Int32} {σ : RS} {Q : Int32 → RS → Prop} (h : wpX5_same x1 x2 σ Q) : Met l yX5_same (Cond.code yX5_same cX5_same 5 (some .boolean) :: wsA) rmX5_same (mPc D (tyG g) A (rT g σ) [.ref (g.1 5000), .int x1, .int x2]) (va_Qi Q (fun u t => wd D A (rT g u) t.heap) A) 0 0 A :=
  m_met (by decide +kernel) (Nat.le_of_ble_eq_true rfl) (fun p e s m below meth c X hr H locs ls hw hS hl => wX5_same_0 hg X hr σ h H locs ls hw hS (lv_sub hl [0, 1, 2] rfl))
theorem fX5_same : vfit yX5_same cX5_same 5 (some .boolean) 2 := ⟨mw_642, mw_643, mw_5, mw_644, by decide +kernel, by decide +kernel, by decide +kernel⟩
