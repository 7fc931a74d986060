/-! BigPolysModel.zero(I)V -/
def rmX5_zero : Room := { frames := 0, cells := 0, slots := 0, locals := 0 }
def wpX5_zero_0 (x1 : Int32) (Q : RS → Prop) (σ : RS) : Prop :=
  vp_in x1 227 ∧ (
  vp_in x1 227 ∧ (
  Q (wG (wS σ x1 (0 : Int32)) x1 (0 : Int32))))
set_option maxRecDepth 100000 in
set_option maxHeartbeats 4000000 in
theorem wX5_zero_0 {p : Program} {l : Launch} {e : Env} {s : State} {m : MethodId} {args : Array Value} {below : List Frame} {meth : Method} {c : Code} {D : va_G} {A : Nat → Prop} {g : mG} (hg : inj g) {x1 : Int32} (X : cx p m meth c s args cX5_zero 2 RX5 D (tyG g)) (hr : meth.sig.returnType = none) {Q : RS → Prop} : ∀ (σ : RS), wpX5_zero_0 x1 Q σ → cW p l e rmX5_zero s m args below meth c (MQ below (va_Qv Q (fun u t => wd D A (rT g u) t.heap) A) args s 0 0 A) D A (rT g σ) 0 2 [(0, .ref (g.1 5000)), (1, .int x1)] := by
  obtain ⟨hx, hb, hml, hown, hts, hK, hlk⟩ := id X
  intro σ h H locs ls hw hS hl
  unfold wpX5_zero_0 at h
  refine lv_aload_n hx hb dX5_zero_0 rfl (lv_at hl 0 rfl) ?_
  refine m_get (v := .ref (g.1 5002)) X hw qM rfl inA_X5 1 (by decide) mw_78 rfl dX5_zero_1 ?_
  refine lv_iload_n hx hb dX5_zero_4 rfl (lv_at hl 1 rfl) ?_
  refine lv_iconst (v := (0 : Int32)) hx hb dX5_zero_5 (by decide) ?_
  obtain ⟨hi, h⟩ := h
  refine m_iast (T' := rT g (wS σ x1 (0 : Int32))) X hw hS qS 0 rfl hi (vS hg) dX5_zero_6 (fun H locs hw hS => ?_)
  refine lv_aload_n hx hb dX5_zero_7 rfl (lv_at hl 0 rfl) ?_
  refine m_get (v := .ref (g.1 5003)) X hw qM rfl inA_X5 2 (by decide) mw_79 rfl dX5_zero_8 ?_
  refine lv_iload_n hx hb dX5_zero_11 rfl (lv_at hl 1 rfl) ?_
  refine lv_iconst (v := (0 : Int32)) hx hb dX5_zero_12 (by decide) ?_
  obtain ⟨hi, h⟩ := h
  refine m_iast (T' := rT g (wG (wS σ x1 (0 : Int32)) x1 (0 : Int32))) X hw hS qG 0 rfl hi (vG hg) dX5_zero_13 (fun H locs hw hS => ?_)
  exact m_vret X hr hw hS h dX5_zero_14
def wpX5_zero (x1 : Int32) (σ : RS) (Q : RS → Prop) : Prop := wpX5_zero_0 x1 Q σ
theorem kX5_zero {l : Launch} {D : va_G} {A : Nat → Prop} {g : mG} (hg : inj g) {x1 : Int32} {σ : RS} {Q : RS → Prop} (h : wpX5_zero x1 σ Q) : Met l yX5_zero (Cond.code yX5_zero cX5_zero 2 none :: wsA) rmX5_zero (mPc D (tyG g) A (rT g σ) [.ref (g.1 5000), .int x1]) (va_Qv Q (fun u t => wd D A (rT g u) t.heap) A) 0 0 A :=
  m_met (by decide +kernel) (Nat.le_of_ble_eq_true rfl) (fun p e s m below meth c X hr H locs ls hw hS hl => wX5_zero_0 hg X hr σ h H locs ls hw hS (lv_sub hl [0, 1] rfl))
theorem fX5_zero : vfit yX5_zero cX5_zero 2 none 1 := ⟨mw_123, mw_124, mw_5, mw_125, by decide +kernel, by decide +kernel, by decide +kernel⟩
/-! BigPolysModel.put(IJ)V -/
def rmX5_put : Room := { frames := 0, cells := 0, slots := 0, locals := 0 }
def wbX5_put_48 (x1 : Int32) (y2 : Int64) (Q : RS → Prop) (N48 : Int64 → RS → Prop) (l4 : Int64) (σ : RS) : Prop :=
  ((lg_cmp l4 (0 : Int64)) ≤ 0 →
    Q σ) ∧
  (¬ (lg_cmp l4 (0 : Int64)) ≤ 0 →
    vp_in x1 227 ∧ (
    vp_in (((440 : Int32) * x1) + (rS σ x1.toNatClampNeg)) 99880 ∧ (
    vp_in x1 227 ∧ (
    vp_in x1 227 ∧ (
    ∀ b1 : Int64, b1 = jlshr l4 (28 : Int32) →
    N48 b1 (wS (wL σ (((440 : Int32) * x1) + (rS σ x1.toNatClampNeg)) (l4 &&& (268435455 : Int64))) x1 ((rS (wL σ (((440 : Int32) * x1) + (rS σ x1.toNatClampNeg)) (l4 &&& (268435455 : Int64))) x1.toNatClampNeg) + (1 : Int32))))))))
set_option maxRecDepth 100000 in
set_option maxHeartbeats 4000000 in
theorem wX5_put_48 {p : Program} {l : Launch} {e : Env} {s : State} {m : MethodId} {args : Array Value} {below : List Frame} {meth : Method} {c : Code} {D : va_G} {A : Nat → Prop} {g : mG} (hg : inj g) {x1 : Int32} {y2 : Int64} (X : cx p m meth c s args cX5_put 6 RX5 D (tyG g)) (hr : meth.sig.returnType = none) {Q : RS → Prop} : ∀ (n : Nat) (l4 : Int64) (σ : RS), lq2 (wbX5_put_48 x1 y2 Q) n l4 σ → cW p l e rmX5_put s m args below meth c (MQ below (va_Qv Q (fun u t => wd D A (rT g u) t.heap) A) args s 0 0 A) D A (rT g σ) 48 6 [(0, .ref (g.1 5000)), (1, .int x1), (2, .long y2), (4, .long l4)] := by
  obtain ⟨hx, hb, hml, hown, hts, hK, hlk⟩ := id X
  intro n
  induction n with
  | zero =>
    intro l4 σ h
    exact h.elim
  | succ n hN48 =>
    intro l4 σ h H locs ls hw hS hl
    replace h : wbX5_put_48 x1 y2 Q (lq2 (wbX5_put_48 x1 y2 Q) n) l4 σ := h
    unfold wbX5_put_48 at h
    refine lv_lload hx hb dX5_put_48 (lv_at hl 3 rfl) ?_
    refine lv_lconst (v := (0 : Int64)) hx hb dX5_put_50 (by decide) ?_
    refine W.lcmp hx hb dX5_put_51 ?_
    refine lv_if_le (tgt := 98) hx hb dX5_put_52 (by decide) (fun hc => ?_) (fun hc => ?_)
    · replace h := h.1 hc
      exact m_vret X hr hw hS h dX5_put_98
    · replace h := h.2 hc
      refine lv_aload_n hx hb dX5_put_55 rfl (lv_at hl 0 rfl) ?_
      refine m_get (v := .ref (g.1 5001)) X hw qM rfl inA_X5 0 (by decide) mw_77 rfl dX5_put_56 ?_
      refine lv_sipush (v := (440 : Int32)) hx hb dX5_put_59 (by decide) ?_
      refine lv_iload_n hx hb dX5_put_62 rfl (lv_at hl 1 rfl) ?_
      refine lv_imul hx hb dX5_put_63 ?_
      refine lv_aload_n hx hb dX5_put_64 rfl (lv_at hl 0 rfl) ?_
      refine m_get (v := .ref (g.1 5002)) X hw qM rfl inA_X5 1 (by decide) mw_78 rfl dX5_put_65 ?_
      refine lv_iload_n hx hb dX5_put_68 rfl (lv_at hl 1 rfl) ?_
      obtain ⟨hi, h⟩ := h
      refine m_iald X hw qS 0 rfl hi dX5_put_69 ?_
      refine lv_iadd hx hb dX5_put_70 ?_
      refine lv_lload hx hb dX5_put_71 (lv_at hl 3 rfl) ?_
      refine lv_ldc2 (v := (268435455 : Int64)) hx hb hown (hts _ mw_146) dX5_put_73 ?_
      refine lv_land hx hb dX5_put_76 ?_
      obtain ⟨hi, h⟩ := h
      refine m_last (T' := rT g (wL σ (((440 : Int32) * x1) + (rS σ x1.toNatClampNeg)) (l4 &&& (268435455 : Int64)))) X hw hS qL 1 rfl hi (vL hg) dX5_put_77 (fun H locs hw hS => ?_)
      refine lv_aload_n hx hb dX5_put_78 rfl (lv_at hl 0 rfl) ?_
      refine m_get (v := .ref (g.1 5002)) X hw qM rfl inA_X5 1 (by decide) mw_78 rfl dX5_put_79 ?_
      refine lv_iload_n hx hb dX5_put_82 rfl (lv_at hl 1 rfl) ?_
      refine lv_dup2_11 hx hb dX5_put_83 rfl rfl ?_
      obtain ⟨hi, h⟩ := h
      refine m_iald X hw qS 0 rfl hi dX5_put_84 ?_
      refine lv_iconst (v := (1 : Int32)) hx hb dX5_put_85 (by decide) ?_
      refine lv_iadd hx hb dX5_put_86 ?_
      obtain ⟨hi, h⟩ := h
      refine m_iast (T' := rT g (wS (wL σ (((440 : Int32) * x1) + (rS σ x1.toNatClampNeg)) (l4 &&& (268435455 : Int64))) x1 ((rS (wL σ (((440 : Int32) * x1) + (rS σ x1.toNatClampNeg)) (l4 &&& (268435455 : Int64))) x1.toNatClampNeg) + (1 : Int32)))) X hw hS qS 0 rfl hi (vS hg) dX5_put_87 (fun H locs hw hS => ?_)
      refine lv_lload hx hb dX5_put_88 (lv_at hl 3 rfl) ?_
      refine lv_bipush (v := (28 : Int32)) hx hb dX5_put_90 (by decide) ?_
      refine lv_lshr (v := jlshr l4 (28 : Int32)) hx hb dX5_put_92 rfl ?_
      refine lv_topl (fun b1 eb1 => ?_)
      replace h := h b1 eb1
      refine lv_lstore (lv' := [(4, .long b1), (0, .ref (g.1 5000)), (1, .int x1), (2, .long y2)]) hx hb dX5_put_93 hl (by decide) rfl (fun ls hl => ?_)
      refine lv_goto (tgt := 48) hx hb dX5_put_95 (by decide) ?_
      exact hN48 b1 _ h H locs ls hw hS (lv_sub hl [1, 2, 3, 0] rfl)
def wpX5_put_41 (x1 : Int32) (y2 : Int64) (Q : RS → Prop) (l4 : Int64) (σ : RS) : Prop :=
  vp_in x1 227 ∧ (
  ∃ n, lq2 (wbX5_put_48 x1 y2 Q) n l4 (wS σ x1 (0 : Int32)))
set_option maxRecDepth 100000 in
set_option maxHeartbeats 4000000 in
theorem wX5_put_41 {p : Program} {l : Launch} {e : Env} {s : State} {m : MethodId} {args : Array Value} {below : List Frame} {meth : Method} {c : Code} {D : va_G} {A : Nat → Prop} {g : mG} (hg : inj g) {x1 : Int32} {y2 : Int64} (X : cx p m meth c s args cX5_put 6 RX5 D (tyG g)) (hr : meth.sig.returnType = none) {Q : RS → Prop} : ∀ (l4 : Int64) (σ : RS), wpX5_put_41 x1 y2 Q l4 σ → cW p l e rmX5_put s m args below meth c (MQ below (va_Qv Q (fun u t => wd D A (rT g u) t.heap) A) args s 0 0 A) D A (rT g σ) 41 6 [(0, .ref (g.1 5000)), (1, .int x1), (2, .long y2), (4, .long l4)] := by
  obtain ⟨hx, hb, hml, hown, hts, hK, hlk⟩ := id X
  intro l4 σ h H locs ls hw hS hl
  unfold wpX5_put_41 at h
  refine lv_aload_n hx hb dX5_put_41 rfl (lv_at hl 0 rfl) ?_
  refine m_get (v := .ref (g.1 5002)) X hw qM rfl inA_X5 1 (by decide) mw_78 rfl dX5_put_42 ?_
  refine lv_iload_n hx hb dX5_put_45 rfl (lv_at hl 1 rfl) ?_
  refine lv_iconst (v := (0 : Int32)) hx hb dX5_put_46 (by decide) ?_
  obtain ⟨hi, h⟩ := h
  refine m_iast (T' := rT g (wS σ x1 (0 : Int32))) X hw hS qS 0 rfl hi (vS hg) dX5_put_47 (fun H locs hw hS => ?_)
  obtain ⟨n9, h⟩ := h
  exact wX5_put_48 hg X hr n9 l4 _ h H locs ls hw hS (lv_sub hl [0, 1, 2, 3] rfl)
def wpX5_put_14 (x1 : Int32) (y2 : Int64) (Q : RS → Prop) (l4 : Int64) (σ : RS) : Prop :=
  (0 ≤ (lg_cmp y2 (0 : Int64)) →
    ((lg_cmp y2 (0 : Int64)) ≤ 0 →
      vp_in x1 227 ∧ (
      wpX5_put_41 x1 y2 Q l4 (wG σ x1 (0 : Int32)))) ∧
    (¬ (lg_cmp y2 (0 : Int64)) ≤ 0 →
      vp_in x1 227 ∧ (
      wpX5_put_41 x1 y2 Q l4 (wG σ x1 (1 : Int32))))) ∧
  (¬ 0 ≤ (lg_cmp y2 (0 : Int64)) →
    vp_in x1 227 ∧ (
    wpX5_put_41 x1 y2 Q l4 (wG σ x1 (-1 : Int32))))
set_option maxRecDepth 100000 in
set_option maxHeartbeats 4000000 in
theorem wX5_put_14 {p : Program} {l : Launch} {e : Env} {s : State} {m : MethodId} {args : Array Value} {below : List Frame} {meth : Method} {c : Code} {D : va_G} {A : Nat → Prop} {g : mG} (hg : inj g) {x1 : Int32} {y2 : Int64} (X : cx p m meth c s args cX5_put 6 RX5 D (tyG g)) (hr : meth.sig.returnType = none) {Q : RS → Prop} : ∀ (l4 : Int64) (σ : RS), wpX5_put_14 x1 y2 Q l4 σ → cW p l e rmX5_put s m args below meth c (MQ below (va_Qv Q (fun u t => wd D A (rT g u) t.heap) A) args s 0 0 A) D A (rT g σ) 14 6 [(0, .ref (g.1 5000)), (1, .int x1), (2, .long y2), (4, .long l4)] := by
  obtain ⟨hx, hb, hml, hown, hts, hK, hlk⟩ := id X
  intro l4 σ h H locs ls hw hS hl
  unfold wpX5_put_14 at h
  refine lv_aload_n hx hb dX5_put_14 rfl (lv_at hl 0 rfl) ?_
  refine m_get (v := .ref (g.1 5003)) X hw qM rfl inA_X5 2 (by decide) mw_79 rfl dX5_put_15 ?_
  refine lv_iload_n hx hb dX5_put_18 rfl (lv_at hl 1 rfl) ?_
  refine lv_lload_n hx hb dX5_put_19 rfl (lv_at hl 2 rfl) ?_
  refine lv_lconst (v := (0 : Int64)) hx hb dX5_put_20 (by decide) ?_
  refine W.lcmp hx hb dX5_put_21 ?_
  refine lv_if_ge (tgt := 29) hx hb dX5_put_22 (by decide) (fun hc => ?_) (fun hc => ?_)
  · replace h := h.1 hc
    refine lv_lload_n hx hb dX5_put_29 rfl (lv_at hl 2 rfl) ?_
    refine lv_lconst (v := (0 : Int64)) hx hb dX5_put_30 (by decide) ?_
    refine W.lcmp hx hb dX5_put_31 ?_
    refine lv_if_le (tgt := 39) hx hb dX5_put_32 (by decide) (fun hc => ?_) (fun hc => ?_)
    · replace h := h.1 hc
      refine lv_iconst (v := (0 : Int32)) hx hb dX5_put_39 (by decide) ?_
      obtain ⟨hi, h⟩ := h
      refine m_iast (T' := rT g (wG σ x1 (0 : Int32))) X hw hS qG 0 rfl hi (vG hg) dX5_put_40 (fun H locs hw hS => ?_)
      exact wX5_put_41 hg X hr l4 _ h H locs ls hw hS (lv_sub hl [0, 1, 2, 3] rfl)
    · replace h := h.2 hc
      refine lv_iconst (v := (1 : Int32)) hx hb dX5_put_35 (by decide) ?_
      refine lv_goto (tgt := 40) hx hb dX5_put_36 (by decide) ?_
      obtain ⟨hi, h⟩ := h
      refine m_iast (T' := rT g (wG σ x1 (1 : Int32))) X hw hS qG 0 rfl hi (vG hg) dX5_put_40 (fun H locs hw hS => ?_)
      exact wX5_put_41 hg X hr l4 _ h H locs ls hw hS (lv_sub hl [0, 1, 2, 3] rfl)
  · replace h := h.2 hc
    refine lv_iconst (v := (-1 : Int32)) hx hb dX5_put_25 (by decide) ?_
    refine lv_goto (tgt := 40) hx hb dX5_put_26 (by decide) ?_
    obtain ⟨hi, h⟩ := h
    refine m_iast (T' := rT g (wG σ x1 (-1 : Int32))) X hw hS qG 0 rfl hi (vG hg) dX5_put_40 (fun H locs hw hS => ?_)
    exact wX5_put_41 hg X hr l4 _ h H locs ls hw hS (lv_sub hl [0, 1, 2, 3] rfl)
def wpX5_put_0 (x1 : Int32) (y2 : Int64) (Q : RS → Prop) (σ : RS) : Prop :=
  (0 ≤ (lg_cmp y2 (0 : Int64)) →
    wpX5_put_14 x1 y2 Q y2 σ) ∧
  (¬ 0 ≤ (lg_cmp y2 (0 : Int64)) →
    ∀ b2 : Int64, b2 = -y2 →
    wpX5_put_14 x1 y2 Q b2 σ)
set_option maxRecDepth 100000 in
set_option maxHeartbeats 4000000 in
theorem wX5_put_0 {p : Program} {l : Launch} {e : Env} {s : State} {m : MethodId} {args : Array Value} {below : List Frame} {meth : Method} {c : Code} {D : va_G} {A : Nat → Prop} {g : mG} (hg : inj g) {x1 : Int32} {y2 : Int64} (X : cx p m meth c s args cX5_put 6 RX5 D (tyG g)) (hr : meth.sig.returnType = none) {Q : RS → Prop} : ∀ (σ : RS), wpX5_put_0 x1 y2 Q σ → cW p l e rmX5_put s m args below meth c (MQ below (va_Qv Q (fun u t => wd D A (rT g u) t.heap) A) args s 0 0 A) D A (rT g σ) 0 6 [(0, .ref (g.1 5000)), (1, .int x1), (2, .long y2)] := by
  obtain ⟨hx, hb, hml, hown, hts, hK, hlk⟩ := id X
  intro σ h H locs ls hw hS hl
  unfold wpX5_put_0 at h
  refine lv_lload_n hx hb dX5_put_0 rfl (lv_at hl 2 rfl) ?_
  refine lv_lconst (v := (0 : Int64)) hx hb dX5_put_1 (by decide) ?_
  refine W.lcmp hx hb dX5_put_2 ?_
  refine lv_if_ge (tgt := 11) hx hb dX5_put_3 (by decide) (fun hc => ?_) (fun hc => ?_)
  · replace h := h.1 hc
    refine lv_lload_n hx hb dX5_put_11 rfl (lv_at hl 2 rfl) ?_
    refine lv_lstore (lv' := [(4, .long y2), (0, .ref (g.1 5000)), (1, .int x1), (2, .long y2)]) hx hb dX5_put_12 hl (by decide) rfl (fun ls hl => ?_)
    exact wX5_put_14 hg X hr y2 _ h H locs ls hw hS (lv_sub hl [1, 2, 3, 0] rfl)
  · replace h := h.2 hc
    refine lv_lload_n hx hb dX5_put_6 rfl (lv_at hl 2 rfl) ?_
    refine lv_lneg hx hb dX5_put_7 ?_
    refine lv_goto (tgt := 12) hx hb dX5_put_8 (by decide) ?_
    refine lv_topl (fun b2 eb2 => ?_)
    replace h := h b2 eb2
    refine lv_lstore (lv' := [(4, .long b2), (0, .ref (g.1 5000)), (1, .int x1), (2, .long y2)]) hx hb dX5_put_12 hl (by decide) rfl (fun ls hl => ?_)
    exact wX5_put_14 hg X hr b2 _ h H locs ls hw hS (lv_sub hl [1, 2, 3, 0] rfl)
def wpX5_put (x1 : Int32) (y2 : Int64) (σ : RS) (Q : RS → Prop) : Prop := wpX5_put_0 x1 y2 Q σ
theorem kX5_put {l : Launch} {D : va_G} {A : Nat → Prop} {g : mG} (hg : inj g) {x1 : Int32} {y2 : Int64} {σ : RS} {Q : RS → Prop} (h : wpX5_put x1 y2 σ Q) : Met l yX5_put (Cond.code yX5_put cX5_put 6 none :: wsA) rmX5_put (mPc D (tyG g) A (rT g σ) [.ref (g.1 5000), .int x1, .long y2]) (va_Qv Q (fun u t => wd D A (rT g u) t.heap) A) 0 0 A :=
  m_met (by decide +kernel) (Nat.le_of_ble_eq_true rfl) (fun p e s m below meth c X hr H locs ls hw hS hl => wX5_put_0 hg X hr σ h H locs ls hw hS (lv_sub hl [0, 1, 2] rfl))
theorem fX5_put : vfit yX5_put cX5_put 6 none 2 := ⟨mw_152, mw_153, mw_5, mw_154, by decide +kernel, by decide +kernel, by decide +kernel⟩
/-! BigPolysModel.copy(II)V -/
def rmX5_copy : Room := { frames := 0, cells := 0, slots := 0, locals := 0 }
def wbX5_copy_2 (x1 : Int32) (x2 : Int32) (Q : RS → Prop) (N2 : Int32 → RS → Prop) (i3 : Int32) (σ : RS) : Prop :=
  vp_in x1 227 ∧ (
  ((rS σ x1.toNatClampNeg) ≤ i3 →
    vp_in x1 227 ∧ (
    vp_in x2 227 ∧ (
    vp_in x1 227 ∧ (
    vp_in x2 227 ∧ (
    Q (wG (wS σ x2 (rS σ x1.toNatClampNeg)) x2 (rG (wS σ x2 (rS σ x1.toNatClampNeg)) x1.toNatClampNeg))))))) ∧
  (¬ (rS σ x1.toNatClampNeg) ≤ i3 →
    vp_in (((440 : Int32) * x1) + i3) 99880 ∧ (
    vp_in (((440 : Int32) * x2) + i3) 99880 ∧ (
    ∀ a1 : Int32, a1 = i3 + (1 : Int32) →
    N2 a1 (wL σ (((440 : Int32) * x2) + i3) (rL σ (((440 : Int32) * x1) + i3).toNatClampNeg))))))
set_option maxRecDepth 100000 in
set_option maxHeartbeats 4000000 in
theorem wX5_copy_2 {p : Program} {l : Launch} {e : Env} {s : State} {m : MethodId} {args : Array Value} {below : List Frame} {meth : Method} {c : Code} {D : va_G} {A : Nat → Prop} {g : mG} (hg : inj g) {x1 : Int32} {x2 : Int32} (X : cx p m meth c s args cX5_copy 4 RX5 D (tyG g)) (hr : meth.sig.returnType = none) {Q : RS → Prop} : ∀ (n : Nat) (i3 : Int32) (σ : RS), lq2 (wbX5_copy_2 x1 x2 Q) n i3 σ → cW p l e rmX5_copy s m args below meth c (MQ below (va_Qv Q (fun u t => wd D A (rT g u) t.heap) A) args s 0 0 A) D A (rT g σ) 2 4 [(0, .ref (g.1 5000)), (1, .int x1), (2, .int x2), (3, .int i3)] := by
  obtain ⟨hx, hb, hml, hown, hts, hK, hlk⟩ := id X
  intro n
  induction n with
  | zero =>
    intro i3 σ h
    exact h.elim
  | succ n hN2 =>
    intro i3 σ h H locs ls hw hS hl
    replace h : wbX5_copy_2 x1 x2 Q (lq2 (wbX5_copy_2 x1 x2 Q) n) i3 σ := h
    unfold wbX5_copy_2 at h
    refine lv_iload_n hx hb dX5_copy_2 rfl (lv_at hl 3 rfl) ?_
    refine lv_aload_n hx hb dX5_copy_3 rfl (lv_at hl 0 rfl) ?_
    refine m_get (v := .ref (g.1 5002)) X hw qM rfl inA_X5 1 (by decide) mw_78 rfl dX5_copy_4 ?_
    refine lv_iload_n hx hb dX5_copy_7 rfl (lv_at hl 1 rfl) ?_
    obtain ⟨hi, h⟩ := h
    refine m_iald X hw qS 0 rfl hi dX5_copy_8 ?_
    refine lv_icmp_ge (tgt := 42) hx hb dX5_copy_9 (by decide) (fun hc => ?_) (fun hc => ?_)
    · replace h := h.1 hc
      refine lv_aload_n hx hb dX5_copy_42 rfl (lv_at hl 0 rfl) ?_
      refine m_get (v := .ref (g.1 5002)) X hw qM rfl inA_X5 1 (by decide) mw_78 rfl dX5_copy_43 ?_
      refine lv_iload_n hx hb dX5_copy_46 rfl (lv_at hl 2 rfl) ?_
      refine lv_aload_n hx hb dX5_copy_47 rfl (lv_at hl 0 rfl) ?_
      refine m_get (v := .ref (g.1 5002)) X hw qM rfl inA_X5 1 (by decide) mw_78 rfl dX5_copy_48 ?_
      refine lv_iload_n hx hb dX5_copy_51 rfl (lv_at hl 1 rfl) ?_
      obtain ⟨hi, h⟩ := h
      refine m_iald X hw qS 0 rfl hi dX5_copy_52 ?_
      obtain ⟨hi, h⟩ := h
      refine m_iast (T' := rT g (wS σ x2 (rS σ x1.toNatClampNeg))) X hw hS qS 0 rfl hi (vS hg) dX5_copy_53 (fun H locs hw hS => ?_)
      refine lv_aload_n hx hb dX5_copy_54 rfl (lv_at hl 0 rfl) ?_
      refine m_get (v := .ref (g.1 5003)) X hw qM rfl inA_X5 2 (by decide) mw_79 rfl dX5_copy_55 ?_
      refine lv_iload_n hx hb dX5_copy_58 rfl (lv_at hl 2 rfl) ?_
      refine lv_aload_n hx hb dX5_copy_59 rfl (lv_at hl 0 rfl) ?_
      refine m_get (v := .ref (g.1 5003)) X hw qM rfl inA_X5 2 (by decide) mw_79 rfl dX5_copy_60 ?_
      refine lv_iload_n hx hb dX5_copy_63 rfl (lv_at hl 1 rfl) ?_
      obtain ⟨hi, h⟩ := h
      refine m_iald X hw qG 0 rfl hi dX5_copy_64 ?_
      obtain ⟨hi, h⟩ := h
      refine m_iast (T' := rT g (wG (wS σ x2 (rS σ x1.toNatClampNeg)) x2 (rG (wS σ x2 (rS σ x1.toNatClampNeg)) x1.toNatClampNeg))) X hw hS qG 0 rfl hi (vG hg) dX5_copy_65 (fun H locs hw hS => ?_)
      exact m_vret X hr hw hS h dX5_copy_66
    · replace h := h.2 hc
      refine lv_aload_n hx hb dX5_copy_12 rfl (lv_at hl 0 rfl) ?_
      refine m_get (v := .ref (g.1 5001)) X hw qM rfl inA_X5 0 (by decide) mw_77 rfl dX5_copy_13 ?_
      refine lv_sipush (v := (440 : Int32)) hx hb dX5_copy_16 (by decide) ?_
      refine lv_iload_n hx hb dX5_copy_19 rfl (lv_at hl 2 rfl) ?_
      refine lv_imul hx hb dX5_copy_20 ?_
      refine lv_iload_n hx hb dX5_copy_21 rfl (lv_at hl 3 rfl) ?_
      refine lv_iadd hx hb dX5_copy_22 ?_
      refine lv_aload_n hx hb dX5_copy_23 rfl (lv_at hl 0 rfl) ?_
      refine m_get (v := .ref (g.1 5001)) X hw qM rfl inA_X5 0 (by decide) mw_77 rfl dX5_copy_24 ?_
      refine lv_sipush (v := (440 : Int32)) hx hb dX5_copy_27 (by decide) ?_
      refine lv_iload_n hx hb dX5_copy_30 rfl (lv_at hl 1 rfl) ?_
      refine lv_imul hx hb dX5_copy_31 ?_
      refine lv_iload_n hx hb dX5_copy_32 rfl (lv_at hl 3 rfl) ?_
      refine lv_iadd hx hb dX5_copy_33 ?_
      obtain ⟨hi, h⟩ := h
      refine m_lald X hw qL 1 rfl hi dX5_copy_34 ?_
      obtain ⟨hi, h⟩ := h
      refine m_last (T' := rT g (wL σ (((440 : Int32) * x2) + i3) (rL σ (((440 : Int32) * x1) + i3).toNatClampNeg))) X hw hS qL 1 rfl hi (vL hg) dX5_copy_35 (fun H locs hw hS => ?_)
      obtain ⟨a1, ea1⟩ : ∃ z : Int32, z = i3 + (1 : Int32) := ⟨_, rfl⟩
      replace h := h a1 ea1
      refine lv_iinc (v := a1) (lv' := [(3, .int a1), (0, .ref (g.1 5000)), (1, .int x1), (2, .int x2)]) hx hb dX5_copy_36 hl (k := 3) rfl (by rw [ea1]; rfl) (by decide) rfl (fun ls hl => ?_)
      refine lv_goto (tgt := 2) hx hb dX5_copy_39 (by decide) ?_
      exact hN2 a1 _ h H locs ls hw hS (lv_sub hl [1, 2, 3, 0] rfl)
def wpX5_copy_0 (x1 : Int32) (x2 : Int32) (Q : RS → Prop) (σ : RS) : Prop :=
  ∃ n, lq2 (wbX5_copy_2 x1 x2 Q) n (0 : Int32) σ
set_option maxRecDepth 100000 in
set_option maxHeartbeats 4000000 in
theorem wX5_copy_0 {p : Program} {l : Launch} {e : Env} {s : State} {m : MethodId} {args : Array Value} {below : List Frame} {meth : Method} {c : Code} {D : va_G} {A : Nat → Prop} {g : mG} (hg : inj g) {x1 : Int32} {x2 : Int32} (X : cx p m meth c s args cX5_copy 4 RX5 D (tyG g)) (hr : meth.sig.returnType = none) {Q : RS → Prop} : ∀ (σ : RS), wpX5_copy_0 x1 x2 Q σ → cW p l e rmX5_copy s m args below meth c (MQ below (va_Qv Q (fun u t => wd D A (rT g u) t.heap) A) args s 0 0 A) D A (rT g σ) 0 4 [(0, .ref (g.1 5000)), (1, .int x1), (2, .int x2)] := by
  obtain ⟨hx, hb, hml, hown, hts, hK, hlk⟩ := id X
  intro σ h H locs ls hw hS hl
  unfold wpX5_copy_0 at h
  refine lv_iconst (v := (0 : Int32)) hx hb dX5_copy_0 (by decide) ?_
  refine lv_istore_n (lv' := [(3, .int (0 : Int32)), (0, .ref (g.1 5000)), (1, .int x1), (2, .int x2)]) hx hb dX5_copy_1 rfl hl (by decide) rfl (fun ls hl => ?_)
  obtain ⟨n9, h⟩ := h
  exact wX5_copy_2 hg X hr n9 (0 : Int32) _ h H locs ls hw hS (lv_sub hl [1, 2, 3, 0] rfl)
def wpX5_copy (x1 : Int32) (x2 : Int32) (σ : RS) (Q : RS → Prop) : Prop := wpX5_copy_0 x1 x2 Q σ
theorem kX5_copy {l : Launch} {D : va_G} {A : Nat → Prop} {g : mG} (hg : inj g) {x1 : Int32} {x2 : Int32} {σ : RS} {Q : RS → Prop} (h : wpX5_copy x1 x2 σ Q) : Met l yX5_copy (Cond.code yX5_copy cX5_copy 4 none :: wsA) rmX5_copy (mPc D (tyG g) A (rT g σ) [.ref (g.1 5000), .int x1, .int x2]) (va_Qv Q (fun u t => wd D A (rT g u) t.heap) A) 0 0 A :=
  m_met (by decide +kernel) (Nat.le_of_ble_eq_true rfl) (fun p e s m below meth c X hr H locs ls hw hS hl => wX5_copy_0 hg X hr σ h H locs ls hw hS (lv_sub hl [0, 1, 2] rfl))
theorem fX5_copy : vfit yX5_copy cX5_copy 4 none 2 := ⟨mw_160, mw_161, mw_5, mw_162, by decide +kernel, by decide +kernel, by decide +kernel⟩
/-! BigPolysModel.trim(I)V -/
def rmX5_trim : Room := { frames := 0, cells := 0, slots := 0, locals := 0 }
def wpX5_trim_46 (x1 : Int32) (Q : RS → Prop) (σ : RS) : Prop :=
  vp_in x1 227 ∧ (
  (¬ (rS σ x1.toNatClampNeg) = 0 →
    vp_in x1 227 ∧ (
    vp_in x1 227 ∧ (
    Q (wG σ x1 (rG σ x1.toNatClampNeg))))) ∧
  ((rS σ x1.toNatClampNeg) = 0 →
    vp_in x1 227 ∧ (
    Q (wG σ x1 (0 : Int32)))))
set_option maxRecDepth 100000 in
set_option maxHeartbeats 4000000 in
theorem wX5_trim_46 {p : Program} {l : Launch} {e : Env} {s : State} {m : MethodId} {args : Array Value} {below : List Frame} {meth : Method} {c : Code} {D : va_G} {A : Nat → Prop} {g : mG} (hg : inj g) {x1 : Int32} (X : cx p m meth c s args cX5_trim 2 RX5 D (tyG g)) (hr : meth.sig.returnType = none) {Q : RS → Prop} : ∀ (σ : RS), wpX5_trim_46 x1 Q σ → cW p l e rmX5_trim s m args below meth c (MQ below (va_Qv Q (fun u t => wd D A (rT g u) t.heap) A) args s 0 0 A) D A (rT g σ) 46 2 [(0, .ref (g.1 5000)), (1, .int x1)] := by
  obtain ⟨hx, hb, hml, hown, hts, hK, hlk⟩ := id X
  intro σ h H locs ls hw hS hl
  unfold wpX5_trim_46 at h
  refine lv_aload_n hx hb dX5_trim_46 rfl (lv_at hl 0 rfl) ?_
  refine m_get (v := .ref (g.1 5003)) X hw qM rfl inA_X5 2 (by decide) mw_79 rfl dX5_trim_47 ?_
  refine lv_iload_n hx hb dX5_trim_50 rfl (lv_at hl 1 rfl) ?_
  refine lv_aload_n hx hb dX5_trim_51 rfl (lv_at hl 0 rfl) ?_
  refine m_get (v := .ref (g.1 5002)) X hw qM rfl inA_X5 1 (by decide) mw_78 rfl dX5_trim_52 ?_
  refine lv_iload_n hx hb dX5_trim_55 rfl (lv_at hl 1 rfl) ?_
  obtain ⟨hi, h⟩ := h
  refine m_iald X hw qS 0 rfl hi dX5_trim_56 ?_
  refine lv_if_ne (tgt := 64) hx hb dX5_trim_57 (by decide) (fun hc => ?_) (fun hc => ?_)
  · replace h := h.1 hc
    refine lv_aload_n hx hb dX5_trim_64 rfl (lv_at hl 0 rfl) ?_
    refine m_get (v := .ref (g.1 5003)) X hw qM rfl inA_X5 2 (by decide) mw_79 rfl dX5_trim_65 ?_
    refine lv_iload_n hx hb dX5_trim_68 rfl (lv_at hl 1 rfl) ?_
    obtain ⟨hi, h⟩ := h
    refine m_iald X hw qG 0 rfl hi dX5_trim_69 ?_
    obtain ⟨hi, h⟩ := h
    refine m_iast (T' := rT g (wG σ x1 (rG σ x1.toNatClampNeg))) X hw hS qG 0 rfl hi (vG hg) dX5_trim_70 (fun H locs hw hS => ?_)
    exact m_vret X hr hw hS h dX5_trim_71
  · replace h := h.2 hc
    refine lv_iconst (v := (0 : Int32)) hx hb dX5_trim_60 (by decide) ?_
    refine lv_goto (tgt := 70) hx hb dX5_trim_61 (by decide) ?_
    obtain ⟨hi, h⟩ := h
    refine m_iast (T' := rT g (wG σ x1 (0 : Int32))) X hw hS qG 0 rfl hi (vG hg) dX5_trim_70 (fun H locs hw hS => ?_)
    exact m_vret X hr hw hS h dX5_trim_71
def wbX5_trim_0 (x1 : Int32) (Q : RS → Prop) (N0 : RS → Prop) (σ : RS) : Prop :=
  vp_in x1 227 ∧ (
  ((rS σ x1.toNatClampNeg) ≤ 0 →
    wpX5_trim_46 x1 Q σ) ∧
  (¬ (rS σ x1.toNatClampNeg) ≤ 0 →
    vp_in x1 227 ∧ (
    vp_in ((((440 : Int32) * x1) + (rS σ x1.toNatClampNeg)) - (1 : Int32)) 99880 ∧ (
    (¬ (lg_cmp (rL σ ((((440 : Int32) * x1) + (rS σ x1.toNatClampNeg)) - (1 : Int32)).toNatClampNeg) (0 : Int64)) = 0 →
      wpX5_trim_46 x1 Q σ) ∧
    ((lg_cmp (rL σ ((((440 : Int32) * x1) + (rS σ x1.toNatClampNeg)) - (1 : Int32)).toNatClampNeg) (0 : Int64)) = 0 →
      vp_in x1 227 ∧ (
      vp_in x1 227 ∧ (
      N0 (wS σ x1 ((rS σ x1.toNatClampNeg) - (1 : Int32))))))))))
set_option maxRecDepth 100000 in
set_option maxHeartbeats 4000000 in
theorem wX5_trim_0 {p : Program} {l : Launch} {e : Env} {s : State} {m : MethodId} {args : Array Value} {below : List Frame} {meth : Method} {c : Code} {D : va_G} {A : Nat → Prop} {g : mG} (hg : inj g) {x1 : Int32} (X : cx p m meth c s args cX5_trim 2 RX5 D (tyG g)) (hr : meth.sig.returnType = none) {Q : RS → Prop} : ∀ (n : Nat) (σ : RS), lq1 (wbX5_trim_0 x1 Q) n σ → cW p l e rmX5_trim s m args below meth c (MQ below (va_Qv Q (fun u t => wd D A (rT g u) t.heap) A) args s 0 0 A) D A (rT g σ) 0 2 [(0, .ref (g.1 5000)), (1, .int x1)] := by
  obtain ⟨hx, hb, hml, hown, hts, hK, hlk⟩ := id X
  intro n
  induction n with
  | zero =>
    intro σ h
    exact h.elim
  | succ n hN0 =>
    intro σ h H locs ls hw hS hl
    replace h : wbX5_trim_0 x1 Q (lq1 (wbX5_trim_0 x1 Q) n) σ := h
    unfold wbX5_trim_0 at h
    refine lv_aload_n hx hb dX5_trim_0 rfl (lv_at hl 0 rfl) ?_
    refine m_get (v := .ref (g.1 5002)) X hw qM rfl inA_X5 1 (by decide) mw_78 rfl dX5_trim_1 ?_
    refine lv_iload_n hx hb dX5_trim_4 rfl (lv_at hl 1 rfl) ?_
    obtain ⟨hi, h⟩ := h
    refine m_iald X hw qS 0 rfl hi dX5_trim_5 ?_
    refine lv_if_le (tgt := 46) hx hb dX5_trim_6 (by decide) (fun hc => ?_) (fun hc => ?_)
    · replace h := h.1 hc
      exact wX5_trim_46 hg X hr _ h H locs ls hw hS (lv_sub hl [0, 1] rfl)
    · replace h := h.2 hc
      refine lv_aload_n hx hb dX5_trim_9 rfl (lv_at hl 0 rfl) ?_
      refine m_get (v := .ref (g.1 5001)) X hw qM rfl inA_X5 0 (by decide) mw_77 rfl dX5_trim_10 ?_
      refine lv_sipush (v := (440 : Int32)) hx hb dX5_trim_13 (by decide) ?_
      refine lv_iload_n hx hb dX5_trim_16 rfl (lv_at hl 1 rfl) ?_
      refine lv_imul hx hb dX5_trim_17 ?_
      refine lv_aload_n hx hb dX5_trim_18 rfl (lv_at hl 0 rfl) ?_
      refine m_get (v := .ref (g.1 5002)) X hw qM rfl inA_X5 1 (by decide) mw_78 rfl dX5_trim_19 ?_
      refine lv_iload_n hx hb dX5_trim_22 rfl (lv_at hl 1 rfl) ?_
      obtain ⟨hi, h⟩ := h
      refine m_iald X hw qS 0 rfl hi dX5_trim_23 ?_
      refine lv_iadd hx hb dX5_trim_24 ?_
      refine lv_iconst (v := (1 : Int32)) hx hb dX5_trim_25 (by decide) ?_
      refine lv_isub hx hb dX5_trim_26 ?_
      obtain ⟨hi, h⟩ := h
      refine m_lald X hw qL 1 rfl hi dX5_trim_27 ?_
      refine lv_lconst (v := (0 : Int64)) hx hb dX5_trim_28 (by decide) ?_
      refine W.lcmp hx hb dX5_trim_29 ?_
      refine lv_if_ne (tgt := 46) hx hb dX5_trim_30 (by decide) (fun hc => ?_) (fun hc => ?_)
      · replace h := h.1 hc
        exact wX5_trim_46 hg X hr _ h H locs ls hw hS (lv_sub hl [0, 1] rfl)
      · replace h := h.2 hc
        refine lv_aload_n hx hb dX5_trim_33 rfl (lv_at hl 0 rfl) ?_
        refine m_get (v := .ref (g.1 5002)) X hw qM rfl inA_X5 1 (by decide) mw_78 rfl dX5_trim_34 ?_
        refine lv_iload_n hx hb dX5_trim_37 rfl (lv_at hl 1 rfl) ?_
        refine lv_dup2_11 hx hb dX5_trim_38 rfl rfl ?_
        obtain ⟨hi, h⟩ := h
        refine m_iald X hw qS 0 rfl hi dX5_trim_39 ?_
        refine lv_iconst (v := (1 : Int32)) hx hb dX5_trim_40 (by decide) ?_
        refine lv_isub hx hb dX5_trim_41 ?_
        obtain ⟨hi, h⟩ := h
        refine m_iast (T' := rT g (wS σ x1 ((rS σ x1.toNatClampNeg) - (1 : Int32)))) X hw hS qS 0 rfl hi (vS hg) dX5_trim_42 (fun H locs hw hS => ?_)
        refine lv_goto (tgt := 0) hx hb dX5_trim_43 (by decide) ?_
        exact hN0 _ h H locs ls hw hS (lv_sub hl [0, 1] rfl)
def wpX5_trim (x1 : Int32) (σ : RS) (Q : RS → Prop) : Prop := ∃ n, lq1 (wbX5_trim_0 x1 Q) n σ
theorem kX5_trim {l : Launch} {D : va_G} {A : Nat → Prop} {g : mG} (hg : inj g) {x1 : Int32} {σ : RS} {Q : RS → Prop} (h : wpX5_trim x1 σ Q) : Met l yX5_trim (Cond.code yX5_trim cX5_trim 2 none :: wsA) rmX5_trim (mPc D (tyG g) A (rT g σ) [.ref (g.1 5000), .int x1]) (va_Qv Q (fun u t => wd D A (rT g u) t.heap) A) 0 0 A :=
  m_met (by decide +kernel) (Nat.le_of_ble_eq_true rfl) (fun p e s m below meth c X hr => h.elim (fun n h H locs ls hw hS hl => wX5_trim_0 hg X hr n σ h H locs ls hw hS (lv_sub hl [0, 1] rfl)))
theorem fX5_trim : vfit yX5_trim cX5_trim 2 none 1 := ⟨mw_148, mw_149, mw_5, mw_150, by decide +kernel, by decide +kernel, by decide +kernel⟩
/-! BigPolysModel.compareSizes(II)I -/
def rmX5_compareSizes : Room := { frames := 0, cells := 0, slots := 0, locals := 0 }
def wbX5_compareSizes_45 (x1 : Int32) (x2 : Int32) (Q : Int32 → RS → Prop) (N45 : Int32 → RS → Prop) (i3 : Int32) (σ : RS) : Prop :=
  (i3 < 0 →
    Q (0 : Int32) σ) ∧
  (¬ i3 < 0 →
    vp_in (((440 : Int32) * x1) + i3) 99880 ∧ (
    vp_in (((440 : Int32) * x2) + i3) 99880 ∧ (
    ((lg_cmp (rL σ (((440 : Int32) * x1) + i3).toNatClampNeg) (rL σ (((440 : Int32) * x2) + i3).toNatClampNeg)) = 0 →
      ∀ a1 : Int32, a1 = i3 + (-1 : Int32) →
      N45 a1 σ) ∧
    (¬ (lg_cmp (rL σ (((440 : Int32) * x1) + i3).toNatClampNeg) (rL σ (((440 : Int32) * x2) + i3).toNatClampNeg)) = 0 →
      vp_in (((440 : Int32) * x1) + i3) 99880 ∧ (
      vp_in (((440 : Int32) * x2) + i3) 99880 ∧ (
      (0 ≤ (lg_cmp (rL σ (((440 : Int32) * x1) + i3).toNatClampNeg) (rL σ (((440 : Int32) * x2) + i3).toNatClampNeg)) →
        Q (1 : Int32) σ) ∧
      (¬ 0 ≤ (lg_cmp (rL σ (((440 : Int32) * x1) + i3).toNatClampNeg) (rL σ (((440 : Int32) * x2) + i3).toNatClampNeg)) →
        Q (-1 : Int32) σ)))))))
set_option maxRecDepth 100000 in
set_option maxHeartbeats 4000000 in
theorem wX5_compareSizes_45 {p : Program} {l : Launch} {e : Env} {s : State} {m : MethodId} {args : Array Value} {below : List Frame} {meth : Method} {c : Code} {D : va_G} {A : Nat → Prop} {g : mG} (hg : inj g) {x1 : Int32} {x2 : Int32} (X : cx p m meth c s args cX5_compareSizes 4 RX5 D (tyG g)) (hr : meth.sig.returnType = (some .int)) {Q : Int32 → RS → Prop} : ∀ (n : Nat) (i3 : Int32) (σ : RS), lq2 (wbX5_compareSizes_45 x1 x2 Q) n i3 σ → cW p l e rmX5_compareSizes s m args below meth c (MQ below (va_Qi Q (fun u t => wd D A (rT g u) t.heap) A) args s 0 0 A) D A (rT g σ) 45 4 [(0, .ref (g.1 5000)), (1, .int x1), (2, .int x2), (3, .int i3)] := by
  obtain ⟨hx, hb, hml, hown, hts, hK, hlk⟩ := id X
  intro n
  induction n with
  | zero =>
    intro i3 σ h
    exact h.elim
  | succ n hN45 =>
    intro i3 σ h H locs ls hw hS hl
    replace h : wbX5_compareSizes_45 x1 x2 Q (lq2 (wbX5_compareSizes_45 x1 x2 Q) n) i3 σ := h
    unfold wbX5_compareSizes_45 at h
    refine lv_iload_n hx hb dX5_compareSizes_45 rfl (lv_at hl 3 rfl) ?_
    refine lv_if_lt (tgt := 117) hx hb dX5_compareSizes_46 (by decide) (fun hc => ?_) (fun hc => ?_)
    · replace h := h.1 hc
      refine lv_iconst (v := (0 : Int32)) hx hb dX5_compareSizes_117 (by decide) ?_
      exact m_iret X hr hw hS h dX5_compareSizes_118
    · replace h := h.2 hc
      refine lv_aload_n hx hb dX5_compareSizes_49 rfl (lv_at hl 0 rfl) ?_
      refine m_get (v := .ref (g.1 5001)) X hw qM rfl inA_X5 0 (by decide) mw_77 rfl dX5_compareSizes_50 ?_
      refine lv_sipush (v := (440 : Int32)) hx hb dX5_compareSizes_53 (by decide) ?_
      refine lv_iload_n hx hb dX5_compareSizes_56 rfl (lv_at hl 1 rfl) ?_
      refine lv_imul hx hb dX5_compareSizes_57 ?_
      refine lv_iload_n hx hb dX5_compareSizes_58 rfl (lv_at hl 3 rfl) ?_
      refine lv_iadd hx hb dX5_compareSizes_59 ?_
      obtain ⟨hi, h⟩ := h
      refine m_lald X hw qL 1 rfl hi dX5_compareSizes_60 ?_
      refine lv_aload_n hx hb dX5_compareSizes_61 rfl (lv_at hl 0 rfl) ?_
      refine m_get (v := .ref (g.1 5001)) X hw qM rfl inA_X5 0 (by decide) mw_77 rfl dX5_compareSizes_62 ?_
      refine lv_sipush (v := (440 : Int32)) hx hb dX5_compareSizes_65 (by decide) ?_
      refine lv_iload_n hx hb dX5_compareSizes_68 rfl (lv_at hl 2 rfl) ?_
      refine lv_imul hx hb dX5_compareSizes_69 ?_
      refine lv_iload_n hx hb dX5_compareSizes_70 rfl (lv_at hl 3 rfl) ?_
      refine lv_iadd hx hb dX5_compareSizes_71 ?_
      obtain ⟨hi, h⟩ := h
      refine m_lald X hw qL 1 rfl hi dX5_compareSizes_72 ?_
      refine W.lcmp hx hb dX5_compareSizes_73 ?_
      refine lv_if_eq (tgt := 111) hx hb dX5_compareSizes_74 (by decide) (fun hc => ?_) (fun hc => ?_)
      · replace h := h.1 hc
        obtain ⟨a1, ea1⟩ : ∃ z : Int32, z = i3 + (-1 : Int32) := ⟨_, rfl⟩
        replace h := h a1 ea1
        refine lv_iinc (v := a1) (lv' := [(3, .int a1), (0, .ref (g.1 5000)), (1, .int x1), (2, .int x2)]) hx hb dX5_compareSizes_111 hl (k := 3) rfl (by rw [ea1]; rfl) (by decide) rfl (fun ls hl => ?_)
        refine lv_goto (tgt := 45) hx hb dX5_compareSizes_114 (by decide) ?_
        exact hN45 a1 _ h H locs ls hw hS (lv_sub hl [1, 2, 3, 0] rfl)
      · replace h := h.2 hc
        refine lv_aload_n hx hb dX5_compareSizes_77 rfl (lv_at hl 0 rfl) ?_
        refine m_get (v := .ref (g.1 5001)) X hw qM rfl inA_X5 0 (by decide) mw_77 rfl dX5_compareSizes_78 ?_
        refine lv_sipush (v := (440 : Int32)) hx hb dX5_compareSizes_81 (by decide) ?_
        refine lv_iload_n hx hb dX5_compareSizes_84 rfl (lv_at hl 1 rfl) ?_
        refine lv_imul hx hb dX5_compareSizes_85 ?_
        refine lv_iload_n hx hb dX5_compareSizes_86 rfl (lv_at hl 3 rfl) ?_
        refine lv_iadd hx hb dX5_compareSizes_87 ?_
        obtain ⟨hi, h⟩ := h
        refine m_lald X hw qL 1 rfl hi dX5_compareSizes_88 ?_
        refine lv_aload_n hx hb dX5_compareSizes_89 rfl (lv_at hl 0 rfl) ?_
        refine m_get (v := .ref (g.1 5001)) X hw qM rfl inA_X5 0 (by decide) mw_77 rfl dX5_compareSizes_90 ?_
        refine lv_sipush (v := (440 : Int32)) hx hb dX5_compareSizes_93 (by decide) ?_
        refine lv_iload_n hx hb dX5_compareSizes_96 rfl (lv_at hl 2 rfl) ?_
        refine lv_imul hx hb dX5_compareSizes_97 ?_
        refine lv_iload_n hx hb dX5_compareSizes_98 rfl (lv_at hl 3 rfl) ?_
        refine lv_iadd hx hb dX5_compareSizes_99 ?_
        obtain ⟨hi, h⟩ := h
        refine m_lald X hw qL 1 rfl hi dX5_compareSizes_100 ?_
        refine W.lcmp hx hb dX5_compareSizes_101 ?_
        refine lv_if_ge (tgt := 109) hx hb dX5_compareSizes_102 (by decide) (fun hc => ?_) (fun hc => ?_)
        · replace h := h.1 hc
          refine lv_iconst (v := (1 : Int32)) hx hb dX5_compareSizes_109 (by decide) ?_
          exact m_iret X hr hw hS h dX5_compareSizes_110
        · replace h := h.2 hc
          refine lv_iconst (v := (-1 : Int32)) hx hb dX5_compareSizes_105 (by decide) ?_
          refine lv_goto (tgt := 110) hx hb dX5_compareSizes_106 (by decide) ?_
          exact m_iret X hr hw hS h dX5_compareSizes_110
def wpX5_compareSizes_0 (x1 : Int32) (x2 : Int32) (Q : Int32 → RS → Prop) (σ : RS) : Prop :=
  vp_in x1 227 ∧ (
  vp_in x2 227 ∧ (
  ((rS σ x1.toNatClampNeg) = (rS σ x2.toNatClampNeg) →
    vp_in x1 227 ∧ (
    ∀ a2 : Int32, a2 = (rS σ x1.toNatClampNeg) - (1 : Int32) →
    ∃ n, lq2 (wbX5_compareSizes_45 x1 x2 Q) n a2 σ)) ∧
  (¬ (rS σ x1.toNatClampNeg) = (rS σ x2.toNatClampNeg) →
    vp_in x1 227 ∧ (
    vp_in x2 227 ∧ (
    ((rS σ x2.toNatClampNeg) ≤ (rS σ x1.toNatClampNeg) →
      Q (1 : Int32) σ) ∧
    (¬ (rS σ x2.toNatClampNeg) ≤ (rS σ x1.toNatClampNeg) →
      Q (-1 : Int32) σ))))))
set_option maxRecDepth 100000 in
set_option maxHeartbeats 4000000 in
theorem wX5_compareSizes_0 {p : Program} {l : Launch} {e : Env} {s : State} {m : MethodId} {args : Array Value} {below : List Frame} {meth : Method} {c : Code} {D : va_G} {A : Nat → Prop} {g : mG} (hg : inj g) {x1 : Int32} {x2 : Int32} (X : cx p m meth c s args cX5_compareSizes 4 RX5 D (tyG g)) (hr : meth.sig.returnType = (some .int)) {Q : Int32 → RS → Prop} : ∀ (σ : RS), wpX5_compareSizes_0 x1 x2 Q σ → cW p l e rmX5_compareSizes s m args below meth c (MQ below (va_Qi Q (fun u t => wd D A (rT g u) t.heap) A) args s 0 0 A) D A (rT g σ) 0 4 [(0, .ref (g.1 5000)), (1, .int x1), (2, .int x2)] := by
  obtain ⟨hx, hb, hml, hown, hts, hK, hlk⟩ := id X
  intro σ h H locs ls hw hS hl
  unfold wpX5_compareSizes_0 at h
  refine lv_aload_n hx hb dX5_compareSizes_0 rfl (lv_at hl 0 rfl) ?_
  refine m_get (v := .ref (g.1 5002)) X hw qM rfl inA_X5 1 (by decide) mw_78 rfl dX5_compareSizes_1 ?_
  refine lv_iload_n hx hb dX5_compareSizes_4 rfl (lv_at hl 1 rfl) ?_
  obtain ⟨hi, h⟩ := h
  refine m_iald X hw qS 0 rfl hi dX5_compareSizes_5 ?_
  refine lv_aload_n hx hb dX5_compareSizes_6 rfl (lv_at hl 0 rfl) ?_
  refine m_get (v := .ref (g.1 5002)) X hw qM rfl inA_X5 1 (by decide) mw_78 rfl dX5_compareSizes_7 ?_
  refine lv_iload_n hx hb dX5_compareSizes_10 rfl (lv_at hl 2 rfl) ?_
  obtain ⟨hi, h⟩ := h
  refine m_iald X hw qS 0 rfl hi dX5_compareSizes_11 ?_
  refine lv_icmp_eq (tgt := 36) hx hb dX5_compareSizes_12 (by decide) (fun hc => ?_) (fun hc => ?_)
  · replace h := h.1 hc
    refine lv_aload_n hx hb dX5_compareSizes_36 rfl (lv_at hl 0 rfl) ?_
    refine m_get (v := .ref (g.1 5002)) X hw qM rfl inA_X5 1 (by decide) mw_78 rfl dX5_compareSizes_37 ?_
    refine lv_iload_n hx hb dX5_compareSizes_40 rfl (lv_at hl 1 rfl) ?_
    obtain ⟨hi, h⟩ := h
    refine m_iald X hw qS 0 rfl hi dX5_compareSizes_41 ?_
    refine lv_iconst (v := (1 : Int32)) hx hb dX5_compareSizes_42 (by decide) ?_
    refine lv_isub hx hb dX5_compareSizes_43 ?_
    refine lv_topi (fun a2 ea2 => ?_)
    replace h := h a2 ea2
    refine lv_istore_n (lv' := [(3, .int a2), (0, .ref (g.1 5000)), (1, .int x1), (2, .int x2)]) hx hb dX5_compareSizes_44 rfl hl (by decide) rfl (fun ls hl => ?_)
    obtain ⟨n9, h⟩ := h
    exact wX5_compareSizes_45 hg X hr n9 a2 _ h H locs ls hw hS (lv_sub hl [1, 2, 3, 0] rfl)
  · replace h := h.2 hc
    refine lv_aload_n hx hb dX5_compareSizes_15 rfl (lv_at hl 0 rfl) ?_
    refine m_get (v := .ref (g.1 5002)) X hw qM rfl inA_X5 1 (by decide) mw_78 rfl dX5_compareSizes_16 ?_
    refine lv_iload_n hx hb dX5_compareSizes_19 rfl (lv_at hl 1 rfl) ?_
    obtain ⟨hi, h⟩ := h
    refine m_iald X hw qS 0 rfl hi dX5_compareSizes_20 ?_
    refine lv_aload_n hx hb dX5_compareSizes_21 rfl (lv_at hl 0 rfl) ?_
    refine m_get (v := .ref (g.1 5002)) X hw qM rfl inA_X5 1 (by decide) mw_78 rfl dX5_compareSizes_22 ?_
    refine lv_iload_n hx hb dX5_compareSizes_25 rfl (lv_at hl 2 rfl) ?_
    obtain ⟨hi, h⟩ := h
    refine m_iald X hw qS 0 rfl hi dX5_compareSizes_26 ?_
    refine lv_icmp_ge (tgt := 34) hx hb dX5_compareSizes_27 (by decide) (fun hc => ?_) (fun hc => ?_)
    · replace h := h.1 hc
      refine lv_iconst (v := (1 : Int32)) hx hb dX5_compareSizes_34 (by decide) ?_
      exact m_iret X hr hw hS h dX5_compareSizes_35
    · replace h := h.2 hc
      refine lv_iconst (v := (-1 : Int32)) hx hb dX5_compareSizes_30 (by decide) ?_
      refine lv_goto (tgt := 35) hx hb dX5_compareSizes_31 (by decide) ?_
      exact m_iret X hr hw hS h dX5_compareSizes_35
def wpX5_compareSizes (x1 : Int32) (x2 : Int32) (σ : RS) (Q : Int32 → RS → Prop) : Prop := wpX5_compareSizes_0 x1 x2 Q σ
theorem kX5_compareSizes {l : Launch} {D : va_G} {A : Nat → Prop} {g : mG} (hg : inj g) {x1 : Int32} {x2 : Int32} {σ : RS} {Q : Int32 → RS → Prop} (h : wpX5_compareSizes x1 x2 σ Q) : Met l yX5_compareSizes (Cond.code yX5_compareSizes cX5_compareSizes 4 (some .int) :: wsA) rmX5_compareSizes (mPc D (tyG g) A (rT g σ) [.ref (g.1 5000), .int x1, .int x2]) (va_Qi Q (fun u t => wd D A (rT g u) t.heap) A) 0 0 A :=
  m_met (by decide +kernel) (Nat.le_of_ble_eq_true rfl) (fun p e s m below meth c X hr H locs ls hw hS hl => wX5_compareSizes_0 hg X hr σ h H locs ls hw hS (lv_sub hl [0, 1, 2] rfl))
theorem fX5_compareSizes : vfit yX5_compareSizes cX5_compareSizes 4 (some .int) 2 := ⟨mw_164, mw_165, mw_5, mw_166, by decide +kernel, by decide +kernel, by decide +kernel⟩
/-! BigPolysModel.sum(IIII)V -/
def rmX5_sum : Room := { frames := 1, cells := 0, slots := 0, locals := 23 }
def wpX5_sum_434 (x1 : Int32) (x2 : Int32) (x3 : Int32) (x4 : Int32) (Q : RS → Prop) (N368 : Int32 → Int32 → Int32 → Int32 → Int32 → Int64 → Int32 → RS → Prop) (i7 : Int32) (i8 : Int32) (i9 : Int32) (i10 : Int32) (i11 : Int32) (l12 : Int64) (i14 : Int32) (l15 : Int64) (σ : RS) : Prop :=
  vp_in (((440 : Int32) * x1) + i14) 99880 ∧ (
  ∀ a1 : Int32, a1 = i14 + (1 : Int32) →
  N368 i7 i8 i9 i10 i11 l12 a1 (wL σ (((440 : Int32) * x1) + i14) (l15 &&& (268435455 : Int64))))
set_option maxRecDepth 100000 in
set_option maxHeartbeats 4000000 in
theorem wX5_sum_434 {p : Program} {l : Launch} {e : Env} {s : State} {m : MethodId} {args : Array Value} {below : List Frame} {meth : Method} {c : Code} {D : va_G} {A : Nat → Prop} {g : mG} (hg : inj g) {x1 : Int32} {x2 : Int32} {x3 : Int32} {x4 : Int32} (X : cx p m meth c s args cX5_sum 17 RX5 D (tyG g)) (hr : meth.sig.returnType = none) {Q : RS → Prop} {N368 : Int32 → Int32 → Int32 → Int32 → Int32 → Int64 → Int32 → RS → Prop} (hN368 : ∀ (i7 : Int32) (i8 : Int32) (i9 : Int32) (i10 : Int32) (i11 : Int32) (l12 : Int64) (i14 : Int32) (σ : RS), N368 i7 i8 i9 i10 i11 l12 i14 σ → cW p l e rmX5_sum s m args below meth c (MQ below (va_Qv Q (fun u t => wd D A (rT g u) t.heap) A) args s 0 0 A) D A (rT g σ) 368 17 [(0, .ref (g.1 5000)), (1, .int x1), (2, .int x2), (3, .int x3), (4, .int x4), (7, .int i7), (8, .int i8), (9, .int i9), (10, .int i10), (11, .int i11), (12, .long l12), (14, .int i14)]) : ∀ (i7 : Int32) (i8 : Int32) (i9 : Int32) (i10 : Int32) (i11 : Int32) (l12 : Int64) (i14 : Int32) (l15 : Int64) (σ : RS), wpX5_sum_434 x1 x2 x3 x4 Q N368 i7 i8 i9 i10 i11 l12 i14 l15 σ → cW p l e rmX5_sum s m args below meth c (MQ below (va_Qv Q (fun u t => wd D A (rT g u) t.heap) A) args s 0 0 A) D A (rT g σ) 434 17 [(0, .ref (g.1 5000)), (1, .int x1), (2, .int x2), (3, .int x3), (4, .int x4), (7, .int i7), (8, .int i8), (9, .int i9), (10, .int i10), (11, .int i11), (12, .long l12), (14, .int i14), (15, .long l15)] := by
  obtain ⟨hx, hb, hml, hown, hts, hK, hlk⟩ := id X
  intro i7 i8 i9 i10 i11 l12 i14 l15 σ h H locs ls hw hS hl
  unfold wpX5_sum_434 at h
  refine lv_aload_n hx hb dX5_sum_434 rfl (lv_at hl 0 rfl) ?_
  refine m_get (v := .ref (g.1 5001)) X hw qM rfl inA_X5 0 (by decide) mw_77 rfl dX5_sum_435 ?_
  refine lv_sipush (v := (440 : Int32)) hx hb dX5_sum_438 (by decide) ?_
  refine lv_iload_n hx hb dX5_sum_441 rfl (lv_at hl 1 rfl) ?_
  refine lv_imul hx hb dX5_sum_442 ?_
  refine lv_iload hx hb dX5_sum_443 (lv_at hl 11 rfl) ?_
  refine lv_iadd hx hb dX5_sum_445 ?_
  refine lv_lload hx hb dX5_sum_446 (lv_at hl 12 rfl) ?_
  refine lv_ldc2 (v := (268435455 : Int64)) hx hb hown (hts _ mw_146) dX5_sum_448 ?_
  refine lv_land hx hb dX5_sum_451 ?_
  obtain ⟨hi, h⟩ := h
  refine m_last (T' := rT g (wL σ (((440 : Int32) * x1) + i14) (l15 &&& (268435455 : Int64)))) X hw hS qL 1 rfl hi (vL hg) dX5_sum_452 (fun H locs hw hS => ?_)
  obtain ⟨a1, ea1⟩ : ∃ z : Int32, z = i14 + (1 : Int32) := ⟨_, rfl⟩
  replace h := h a1 ea1
  refine lv_iinc (v := a1) (lv' := [(14, .int a1), (0, .ref (g.1 5000)), (1, .int x1), (2, .int x2), (3, .int x3), (4, .int x4), (7, .int i7), (8, .int i8), (9, .int i9), (10, .int i10), (11, .int i11), (12, .long l12), (15, .long l15)]) hx hb dX5_sum_453 hl (k := 11) rfl (by rw [ea1]; rfl) (by decide) rfl (fun ls hl => ?_)
  refine lv_goto (tgt := 368) hx hb dX5_sum_456 (by decide) ?_
  exact hN368 i7 i8 i9 i10 i11 l12 a1 _ h H locs ls hw hS (lv_sub hl [1, 2, 3, 4, 5, 6, 7, 8, 9, 10, 11, 0] rfl)
def wpX5_sum_420 (x1 : Int32) (x2 : Int32) (x3 : Int32) (x4 : Int32) (Q : RS → Prop) (N368 : Int32 → Int32 → Int32 → Int32 → Int32 → Int64 → Int32 → RS → Prop) (i7 : Int32) (i8 : Int32) (i9 : Int32) (i10 : Int32) (i11 : Int32) (i14 : Int32) (l15 : Int64) (σ : RS) : Prop :=
  (0 ≤ (lg_cmp l15 (0 : Int64)) →
    wpX5_sum_434 x1 x2 x3 x4 Q N368 i7 i8 i9 i10 i11 (0 : Int64) i14 l15 σ) ∧
  (¬ 0 ≤ (lg_cmp l15 (0 : Int64)) →
    wpX5_sum_434 x1 x2 x3 x4 Q N368 i7 i8 i9 i10 i11 (1 : Int64) i14 l15 σ)
set_option maxRecDepth 100000 in
set_option maxHeartbeats 4000000 in
theorem wX5_sum_420 {p : Program} {l : Launch} {e : Env} {s : State} {m : MethodId} {args : Array Value} {below : List Frame} {meth : Method} {c : Code} {D : va_G} {A : Nat → Prop} {g : mG} (hg : inj g) {x1 : Int32} {x2 : Int32} {x3 : Int32} {x4 : Int32} (X : cx p m meth c s args cX5_sum 17 RX5 D (tyG g)) (hr : meth.sig.returnType = none) {Q : RS → Prop} {N368 : Int32 → Int32 → Int32 → Int32 → Int32 → Int64 → Int32 → RS → Prop} (hN368 : ∀ (i7 : Int32) (i8 : Int32) (i9 : Int32) (i10 : Int32) (i11 : Int32) (l12 : Int64) (i14 : Int32) (σ : RS), N368 i7 i8 i9 i10 i11 l12 i14 σ → cW p l e rmX5_sum s m args below meth c (MQ below (va_Qv Q (fun u t => wd D A (rT g u) t.heap) A) args s 0 0 A) D A (rT g σ) 368 17 [(0, .ref (g.1 5000)), (1, .int x1), (2, .int x2), (3, .int x3), (4, .int x4), (7, .int i7), (8, .int i8), (9, .int i9), (10, .int i10), (11, .int i11), (12, .long l12), (14, .int i14)]) : ∀ (i7 : Int32) (i8 : Int32) (i9 : Int32) (i10 : Int32) (i11 : Int32) (i14 : Int32) (l15 : Int64) (σ : RS), wpX5_sum_420 x1 x2 x3 x4 Q N368 i7 i8 i9 i10 i11 i14 l15 σ → cW p l e rmX5_sum s m args below meth c (MQ below (va_Qv Q (fun u t => wd D A (rT g u) t.heap) A) args s 0 0 A) D A (rT g σ) 420 17 [(0, .ref (g.1 5000)), (1, .int x1), (2, .int x2), (3, .int x3), (4, .int x4), (7, .int i7), (8, .int i8), (9, .int i9), (10, .int i10), (11, .int i11), (14, .int i14), (15, .long l15)] := by
  obtain ⟨hx, hb, hml, hown, hts, hK, hlk⟩ := id X
  intro i7 i8 i9 i10 i11 i14 l15 σ h H locs ls hw hS hl
  unfold wpX5_sum_420 at h
  refine lv_lload hx hb dX5_sum_420 (lv_at hl 11 rfl) ?_
  refine lv_lconst (v := (0 : Int64)) hx hb dX5_sum_422 (by decide) ?_
  refine W.lcmp hx hb dX5_sum_423 ?_
  refine lv_if_ge (tgt := 431) hx hb dX5_sum_424 (by decide) (fun hc => ?_) (fun hc => ?_)
  · replace h := h.1 hc
    refine lv_lconst (v := (0 : Int64)) hx hb dX5_sum_431 (by decide) ?_
    refine lv_lstore (lv' := [(12, .long (0 : Int64)), (0, .ref (g.1 5000)), (1, .int x1), (2, .int x2), (3, .int x3), (4, .int x4), (7, .int i7), (8, .int i8), (9, .int i9), (10, .int i10), (11, .int i11), (14, .int i14), (15, .long l15)]) hx hb dX5_sum_432 hl (by decide) rfl (fun ls hl => ?_)
    exact wX5_sum_434 hg X hr hN368 i7 i8 i9 i10 i11 (0 : Int64) i14 l15 _ h H locs ls hw hS (lv_sub hl [1, 2, 3, 4, 5, 6, 7, 8, 9, 10, 0, 11, 12] rfl)
  · replace h := h.2 hc
    refine lv_lconst (v := (1 : Int64)) hx hb dX5_sum_427 (by decide) ?_
    refine lv_goto (tgt := 432) hx hb dX5_sum_428 (by decide) ?_
    refine lv_lstore (lv' := [(12, .long (1 : Int64)), (0, .ref (g.1 5000)), (1, .int x1), (2, .int x2), (3, .int x3), (4, .int x4), (7, .int i7), (8, .int i8), (9, .int i9), (10, .int i10), (11, .int i11), (14, .int i14), (15, .long l15)]) hx hb dX5_sum_432 hl (by decide) rfl (fun ls hl => ?_)
    exact wX5_sum_434 hg X hr hN368 i7 i8 i9 i10 i11 (1 : Int64) i14 l15 _ h H locs ls hw hS (lv_sub hl [1, 2, 3, 4, 5, 6, 7, 8, 9, 10, 0, 11, 12] rfl)
def wbX5_sum_368 (x1 : Int32) (x2 : Int32) (x3 : Int32) (x4 : Int32) (Q : RS → Prop) (N368 : Int32 → Int32 → Int32 → Int32 → Int32 → Int64 → Int32 → RS → Prop) (i7 : Int32) (i8 : Int32) (i9 : Int32) (i10 : Int32) (i11 : Int32) (l12 : Int64) (i14 : Int32) (σ : RS) : Prop :=
  (i10 ≤ i14 →
    vp_in x1 227 ∧ (
    vp_in x1 227 ∧ (
    wpX5_trim x1 (wG (wS σ x1 i10) x1 i9) (fun (σ3 : RS) =>
      Q σ3)))) ∧
  (¬ i10 ≤ i14 →
    vp_in (((440 : Int32) * i7) + i14) 99880 ∧ (
    (i11 ≤ i14 →
      ∀ b4 : Int64, b4 = ((rL σ (((440 : Int32) * i7) + i14).toNatClampNeg) - (0 : Int64)) - l12 →
      wpX5_sum_420 x1 x2 x3 x4 Q N368 i7 i8 i9 i10 i11 i14 b4 σ) ∧
    (¬ i11 ≤ i14 →
      vp_in (((440 : Int32) * i8) + i14) 99880 ∧ (
      ∀ b5 : Int64, b5 = ((rL σ (((440 : Int32) * i7) + i14).toNatClampNeg) - (rL σ (((440 : Int32) * i8) + i14).toNatClampNeg)) - l12 →
      wpX5_sum_420 x1 x2 x3 x4 Q N368 i7 i8 i9 i10 i11 i14 b5 σ))))
set_option maxRecDepth 100000 in
set_option maxHeartbeats 4000000 in
theorem wX5_sum_368 {p : Program} {l : Launch} {e : Env} {s : State} {m : MethodId} {args : Array Value} {below : List Frame} {meth : Method} {c : Code} {D : va_G} {A : Nat → Prop} {g : mG} (hg : inj g) {x1 : Int32} {x2 : Int32} {x3 : Int32} {x4 : Int32} (X : cx p m meth c s args cX5_sum 17 RX5 D (tyG g)) (hr : meth.sig.returnType = none) {Q : RS → Prop} : ∀ (n : Nat) (i7 : Int32) (i8 : Int32) (i9 : Int32) (i10 : Int32) (i11 : Int32) (l12 : Int64) (i14 : Int32) (σ : RS), lq8 (wbX5_sum_368 x1 x2 x3 x4 Q) n i7 i8 i9 i10 i11 l12 i14 σ → cW p l e rmX5_sum s m args below meth c (MQ below (va_Qv Q (fun u t => wd D A (rT g u) t.heap) A) args s 0 0 A) D A (rT g σ) 368 17 [(0, .ref (g.1 5000)), (1, .int x1), (2, .int x2), (3, .int x3), (4, .int x4), (7, .int i7), (8, .int i8), (9, .int i9), (10, .int i10), (11, .int i11), (12, .long l12), (14, .int i14)] := by
  obtain ⟨hx, hb, hml, hown, hts, hK, hlk⟩ := id X
  intro n
  induction n with
  | zero =>
    intro i7 i8 i9 i10 i11 l12 i14 σ h
    exact h.elim
  | succ n hN368 =>
    intro i7 i8 i9 i10 i11 l12 i14 σ h H locs ls hw hS hl
    replace h : wbX5_sum_368 x1 x2 x3 x4 Q (lq8 (wbX5_sum_368 x1 x2 x3 x4 Q) n) i7 i8 i9 i10 i11 l12 i14 σ := h
    unfold wbX5_sum_368 at h
    refine lv_iload hx hb dX5_sum_368 (lv_at hl 11 rfl) ?_
    refine lv_iload hx hb dX5_sum_370 (lv_at hl 8 rfl) ?_
    refine lv_icmp_ge (tgt := 459) hx hb dX5_sum_372 (by decide) (fun hc => ?_) (fun hc => ?_)
    · replace h := h.1 hc
      refine lv_aload_n hx hb dX5_sum_459 rfl (lv_at hl 0 rfl) ?_
      refine m_get (v := .ref (g.1 5002)) X hw qM rfl inA_X5 1 (by decide) mw_78 rfl dX5_sum_460 ?_
      refine lv_iload_n hx hb dX5_sum_463 rfl (lv_at hl 1 rfl) ?_
      refine lv_iload hx hb dX5_sum_464 (lv_at hl 8 rfl) ?_
      obtain ⟨hi, h⟩ := h
      refine m_iast (T' := rT g (wS σ x1 i10)) X hw hS qS 0 rfl hi (vS hg) dX5_sum_466 (fun H locs hw hS => ?_)
      refine lv_aload_n hx hb dX5_sum_467 rfl (lv_at hl 0 rfl) ?_
      refine m_get (v := .ref (g.1 5003)) X hw qM rfl inA_X5 2 (by decide) mw_79 rfl dX5_sum_468 ?_
      refine lv_iload_n hx hb dX5_sum_471 rfl (lv_at hl 1 rfl) ?_
      refine lv_iload hx hb dX5_sum_472 (lv_at hl 7 rfl) ?_
      obtain ⟨hi, h⟩ := h
      refine m_iast (T' := rT g (wG (wS σ x1 i10) x1 i9)) X hw hS qG 0 rfl hi (vG hg) dX5_sum_474 (fun H locs hw hS => ?_)
      refine lv_aload_n hx hb dX5_sum_475 rfl (lv_at hl 0 rfl) ?_
      refine lv_iload_n hx hb dX5_sum_476 rfl (lv_at hl 1 rfl) ?_
      refine m_cVv (TT := rT g) (As := [.int x1]) (rest := []) X hl.1 hw hS (kX5_trim hg h) mw_147 fX5_trim qM rfl rfl ⟨rfl, rfl, Nat.le_of_ble_eq_true rfl, Nat.le_of_ble_eq_true rfl⟩ rfl rfl (Nat.le_of_ble_eq_true rfl) dX5_sum_477 (fun σ3 H locs h hw hS => ?_)
      exact m_vret X hr hw hS h dX5_sum_480
    · replace h := h.2 hc
      refine lv_aload_n hx hb dX5_sum_375 rfl (lv_at hl 0 rfl) ?_
      refine m_get (v := .ref (g.1 5001)) X hw qM rfl inA_X5 0 (by decide) mw_77 rfl dX5_sum_376 ?_
      refine lv_sipush (v := (440 : Int32)) hx hb dX5_sum_379 (by decide) ?_
      refine lv_iload hx hb dX5_sum_382 (lv_at hl 5 rfl) ?_
      refine lv_imul hx hb dX5_sum_384 ?_
      refine lv_iload hx hb dX5_sum_385 (lv_at hl 11 rfl) ?_
      refine lv_iadd hx hb dX5_sum_387 ?_
      obtain ⟨hi, h⟩ := h
      refine m_lald X hw qL 1 rfl hi dX5_sum_388 ?_
      refine lv_iload hx hb dX5_sum_389 (lv_at hl 11 rfl) ?_
      refine lv_iload hx hb dX5_sum_391 (lv_at hl 9 rfl) ?_
      refine lv_icmp_ge (tgt := 413) hx hb dX5_sum_393 (by decide) (fun hc => ?_) (fun hc => ?_)
      · replace h := h.1 hc
        refine lv_lconst (v := (0 : Int64)) hx hb dX5_sum_413 (by decide) ?_
        refine lv_lsub hx hb dX5_sum_414 ?_
        refine lv_lload hx hb dX5_sum_415 (lv_at hl 10 rfl) ?_
        refine lv_lsub hx hb dX5_sum_417 ?_
        refine lv_topl (fun b4 eb4 => ?_)
        replace h := h b4 eb4
        refine lv_lstore (lv' := [(15, .long b4), (0, .ref (g.1 5000)), (1, .int x1), (2, .int x2), (3, .int x3), (4, .int x4), (7, .int i7), (8, .int i8), (9, .int i9), (10, .int i10), (11, .int i11), (12, .long l12), (14, .int i14)]) hx hb dX5_sum_418 hl (by decide) rfl (fun ls hl => ?_)
        exact wX5_sum_420 hg X hr hN368 i7 i8 i9 i10 i11 i14 b4 _ h H locs ls hw hS (lv_sub hl [1, 2, 3, 4, 5, 6, 7, 8, 9, 10, 12, 0] rfl)
      · replace h := h.2 hc
        refine lv_aload_n hx hb dX5_sum_396 rfl (lv_at hl 0 rfl) ?_
        refine m_get (v := .ref (g.1 5001)) X hw qM rfl inA_X5 0 (by decide) mw_77 rfl dX5_sum_397 ?_
        refine lv_sipush (v := (440 : Int32)) hx hb dX5_sum_400 (by decide) ?_
        refine lv_iload hx hb dX5_sum_403 (lv_at hl 6 rfl) ?_
        refine lv_imul hx hb dX5_sum_405 ?_
        refine lv_iload hx hb dX5_sum_406 (lv_at hl 11 rfl) ?_
        refine lv_iadd hx hb dX5_sum_408 ?_
        obtain ⟨hi, h⟩ := h
        refine m_lald X hw qL 1 rfl hi dX5_sum_409 ?_
        refine lv_goto (tgt := 414) hx hb dX5_sum_410 (by decide) ?_
        refine lv_lsub hx hb dX5_sum_414 ?_
        refine lv_lload hx hb dX5_sum_415 (lv_at hl 10 rfl) ?_
        refine lv_lsub hx hb dX5_sum_417 ?_
        refine lv_topl (fun b5 eb5 => ?_)
        replace h := h b5 eb5
        refine lv_lstore (lv' := [(15, .long b5), (0, .ref (g.1 5000)), (1, .int x1), (2, .int x2), (3, .int x3), (4, .int x4), (7, .int i7), (8, .int i8), (9, .int i9), (10, .int i10), (11, .int i11), (12, .long l12), (14, .int i14)]) hx hb dX5_sum_418 hl (by decide) rfl (fun ls hl => ?_)
        exact wX5_sum_420 hg X hr hN368 i7 i8 i9 i10 i11 i14 b5 _ h H locs ls hw hS (lv_sub hl [1, 2, 3, 4, 5, 6, 7, 8, 9, 10, 12, 0] rfl)
def wpX5_sum_344 (x1 : Int32) (x2 : Int32) (x3 : Int32) (x4 : Int32) (Q : RS → Prop) (i7 : Int32) (i8 : Int32) (i9 : Int32) (σ : RS) : Prop :=
  vp_in i7 227 ∧ (
  ∀ a6 : Int32, a6 = rS σ i7.toNatClampNeg →
  vp_in i8 227 ∧ (
  ∀ a7 : Int32, a7 = rS σ i8.toNatClampNeg →
  ∃ n, lq8 (wbX5_sum_368 x1 x2 x3 x4 Q) n i7 i8 i9 a6 a7 (0 : Int64) (0 : Int32) σ))
set_option maxRecDepth 100000 in
set_option maxHeartbeats 4000000 in
theorem wX5_sum_344 {p : Program} {l : Launch} {e : Env} {s : State} {m : MethodId} {args : Array Value} {below : List Frame} {meth : Method} {c : Code} {D : va_G} {A : Nat → Prop} {g : mG} (hg : inj g) {x1 : Int32} {x2 : Int32} {x3 : Int32} {x4 : Int32} (X : cx p m meth c s args cX5_sum 17 RX5 D (tyG g)) (hr : meth.sig.returnType = none) {Q : RS → Prop} : ∀ (i7 : Int32) (i8 : Int32) (i9 : Int32) (σ : RS), wpX5_sum_344 x1 x2 x3 x4 Q i7 i8 i9 σ → cW p l e rmX5_sum s m args below meth c (MQ below (va_Qv Q (fun u t => wd D A (rT g u) t.heap) A) args s 0 0 A) D A (rT g σ) 344 17 [(0, .ref (g.1 5000)), (1, .int x1), (2, .int x2), (3, .int x3), (4, .int x4), (7, .int i7), (8, .int i8), (9, .int i9)] := by
  obtain ⟨hx, hb, hml, hown, hts, hK, hlk⟩ := id X
  intro i7 i8 i9 σ h H locs ls hw hS hl
  unfold wpX5_sum_344 at h
  refine lv_aload_n hx hb dX5_sum_344 rfl (lv_at hl 0 rfl) ?_
  refine m_get (v := .ref (g.1 5002)) X hw qM rfl inA_X5 1 (by decide) mw_78 rfl dX5_sum_345 ?_
  refine lv_iload hx hb dX5_sum_348 (lv_at hl 5 rfl) ?_
  obtain ⟨hi, h⟩ := h
  refine m_iald X hw qS 0 rfl hi dX5_sum_350 ?_
  refine lv_topi (fun a6 ea6 => ?_)
  replace h := h a6 ea6
  refine lv_istore (lv' := [(10, .int a6), (0, .ref (g.1 5000)), (1, .int x1), (2, .int x2), (3, .int x3), (4, .int x4), (7, .int i7), (8, .int i8), (9, .int i9)]) hx hb dX5_sum_351 hl (by decide) rfl (fun ls hl => ?_)
  refine lv_aload_n hx hb dX5_sum_353 rfl (lv_at hl 1 rfl) ?_
  refine m_get (v := .ref (g.1 5002)) X hw qM rfl inA_X5 1 (by decide) mw_78 rfl dX5_sum_354 ?_
  refine lv_iload hx hb dX5_sum_357 (lv_at hl 7 rfl) ?_
  obtain ⟨hi, h⟩ := h
  refine m_iald X hw qS 0 rfl hi dX5_sum_359 ?_
  refine lv_topi (fun a7 ea7 => ?_)
  replace h := h a7 ea7
  refine lv_istore (lv' := [(11, .int a7), (10, .int a6), (0, .ref (g.1 5000)), (1, .int x1), (2, .int x2), (3, .int x3), (4, .int x4), (7, .int i7), (8, .int i8), (9, .int i9)]) hx hb dX5_sum_360 hl (by decide) rfl (fun ls hl => ?_)
  refine lv_lconst (v := (0 : Int64)) hx hb dX5_sum_362 (by decide) ?_
  refine lv_lstore (lv' := [(12, .long (0 : Int64)), (11, .int a7), (10, .int a6), (0, .ref (g.1 5000)), (1, .int x1), (2, .int x2), (3, .int x3), (4, .int x4), (7, .int i7), (8, .int i8), (9, .int i9)]) hx hb dX5_sum_363 hl (by decide) rfl (fun ls hl => ?_)
  refine lv_iconst (v := (0 : Int32)) hx hb dX5_sum_365 (by decide) ?_
  refine lv_istore (lv' := [(14, .int (0 : Int32)), (12, .long (0 : Int64)), (11, .int a7), (10, .int a6), (0, .ref (g.1 5000)), (1, .int x1), (2, .int x2), (3, .int x3), (4, .int x4), (7, .int i7), (8, .int i8), (9, .int i9)]) hx hb dX5_sum_366 hl (by decide) rfl (fun ls hl => ?_)
  obtain ⟨n9, h⟩ := h
  exact wX5_sum_368 hg X hr n9 i7 i8 i9 a6 a7 (0 : Int64) (0 : Int32) _ h H locs ls hw hS (lv_sub hl [4, 5, 6, 7, 8, 9, 10, 11, 3, 2, 1, 0] rfl)
def wpX5_sum_326 (x1 : Int32) (x2 : Int32) (x3 : Int32) (x4 : Int32) (Q : RS → Prop) (i5 : Int32) (i6 : Int32) (i7 : Int32) (i8 : Int32) (σ : RS) : Prop :=
  (i6 < 0 →
    wpX5_sum_344 x1 x2 x3 x4 Q i7 i8 i5 σ) ∧
  (¬ i6 < 0 →
    vp_in x2 227 ∧ (
    ∀ a8 : Int32, a8 = rG σ x2.toNatClampNeg →
    wpX5_sum_344 x1 x2 x3 x4 Q i7 i8 a8 σ))
set_option maxRecDepth 100000 in
set_option maxHeartbeats 4000000 in
theorem wX5_sum_326 {p : Program} {l : Launch} {e : Env} {s : State} {m : MethodId} {args : Array Value} {below : List Frame} {meth : Method} {c : Code} {D : va_G} {A : Nat → Prop} {g : mG} (hg : inj g) {x1 : Int32} {x2 : Int32} {x3 : Int32} {x4 : Int32} (X : cx p m meth c s args cX5_sum 17 RX5 D (tyG g)) (hr : meth.sig.returnType = none) {Q : RS → Prop} : ∀ (i5 : Int32) (i6 : Int32) (i7 : Int32) (i8 : Int32) (σ : RS), wpX5_sum_326 x1 x2 x3 x4 Q i5 i6 i7 i8 σ → cW p l e rmX5_sum s m args below meth c (MQ below (va_Qv Q (fun u t => wd D A (rT g u) t.heap) A) args s 0 0 A) D A (rT g σ) 326 17 [(0, .ref (g.1 5000)), (1, .int x1), (2, .int x2), (3, .int x3), (4, .int x4), (5, .int i5), (6, .int i6), (7, .int i7), (8, .int i8)] := by
  obtain ⟨hx, hb, hml, hown, hts, hK, hlk⟩ := id X
  intro i5 i6 i7 i8 σ h H locs ls hw hS hl
  unfold wpX5_sum_326 at h
  refine lv_iload hx hb dX5_sum_326 (lv_at hl 6 rfl) ?_
  refine lv_if_lt (tgt := 340) hx hb dX5_sum_328 (by decide) (fun hc => ?_) (fun hc => ?_)
  · replace h := h.1 hc
    refine lv_iload hx hb dX5_sum_340 (lv_at hl 5 rfl) ?_
    refine lv_istore (lv' := [(9, .int i5), (0, .ref (g.1 5000)), (1, .int x1), (2, .int x2), (3, .int x3), (4, .int x4), (5, .int i5), (6, .int i6), (7, .int i7), (8, .int i8)]) hx hb dX5_sum_342 hl (by decide) rfl (fun ls hl => ?_)
    exact wX5_sum_344 hg X hr i7 i8 i5 _ h H locs ls hw hS (lv_sub hl [1, 2, 3, 4, 5, 8, 9, 0] rfl)
  · replace h := h.2 hc
    refine lv_aload_n hx hb dX5_sum_331 rfl (lv_at hl 0 rfl) ?_
    refine m_get (v := .ref (g.1 5003)) X hw qM rfl inA_X5 2 (by decide) mw_79 rfl dX5_sum_332 ?_
    refine lv_iload_n hx hb dX5_sum_335 rfl (lv_at hl 2 rfl) ?_
    obtain ⟨hi, h⟩ := h
    refine m_iald X hw qG 0 rfl hi dX5_sum_336 ?_
    refine lv_goto (tgt := 342) hx hb dX5_sum_337 (by decide) ?_
    refine lv_topi (fun a8 ea8 => ?_)
    replace h := h a8 ea8
    refine lv_istore (lv' := [(9, .int a8), (0, .ref (g.1 5000)), (1, .int x1), (2, .int x2), (3, .int x3), (4, .int x4), (5, .int i5), (6, .int i6), (7, .int i7), (8, .int i8)]) hx hb dX5_sum_342 hl (by decide) rfl (fun ls hl => ?_)
    exact wX5_sum_344 hg X hr i7 i8 a8 _ h H locs ls hw hS (lv_sub hl [1, 2, 3, 4, 5, 8, 9, 0] rfl)
def wpX5_sum_314 (x1 : Int32) (x2 : Int32) (x3 : Int32) (x4 : Int32) (Q : RS → Prop) (i5 : Int32) (i6 : Int32) (i7 : Int32) (σ : RS) : Prop :=
  (i6 < 0 →
    wpX5_sum_326 x1 x2 x3 x4 Q i5 i6 i7 x2 σ) ∧
  (¬ i6 < 0 →
    wpX5_sum_326 x1 x2 x3 x4 Q i5 i6 i7 x3 σ)
set_option maxRecDepth 100000 in
set_option maxHeartbeats 4000000 in
theorem wX5_sum_314 {p : Program} {l : Launch} {e : Env} {s : State} {m : MethodId} {args : Array Value} {below : List Frame} {meth : Method} {c : Code} {D : va_G} {A : Nat → Prop} {g : mG} (hg : inj g) {x1 : Int32} {x2 : Int32} {x3 : Int32} {x4 : Int32} (X : cx p m meth c s args cX5_sum 17 RX5 D (tyG g)) (hr : meth.sig.returnType = none) {Q : RS → Prop} : ∀ (i5 : Int32) (i6 : Int32) (i7 : Int32) (σ : RS), wpX5_sum_314 x1 x2 x3 x4 Q i5 i6 i7 σ → cW p l e rmX5_sum s m args below meth c (MQ below (va_Qv Q (fun u t => wd D A (rT g u) t.heap) A) args s 0 0 A) D A (rT g σ) 314 17 [(0, .ref (g.1 5000)), (1, .int x1), (2, .int x2), (3, .int x3), (4, .int x4), (5, .int i5), (6, .int i6), (7, .int i7)] := by
  obtain ⟨hx, hb, hml, hown, hts, hK, hlk⟩ := id X
  intro i5 i6 i7 σ h H locs ls hw hS hl
  unfold wpX5_sum_314 at h
  refine lv_iload hx hb dX5_sum_314 (lv_at hl 6 rfl) ?_
  refine lv_if_lt (tgt := 323) hx hb dX5_sum_316 (by decide) (fun hc => ?_) (fun hc => ?_)
  · replace h := h.1 hc
    refine lv_iload_n hx hb dX5_sum_323 rfl (lv_at hl 2 rfl) ?_
    refine lv_istore (lv' := [(8, .int x2), (0, .ref (g.1 5000)), (1, .int x1), (2, .int x2), (3, .int x3), (4, .int x4), (5, .int i5), (6, .int i6), (7, .int i7)]) hx hb dX5_sum_324 hl (by decide) rfl (fun ls hl => ?_)
    exact wX5_sum_326 hg X hr i5 i6 i7 x2 _ h H locs ls hw hS (lv_sub hl [1, 2, 3, 4, 5, 6, 7, 8, 0] rfl)
  · replace h := h.2 hc
    refine lv_iload_n hx hb dX5_sum_319 rfl (lv_at hl 3 rfl) ?_
    refine lv_goto (tgt := 324) hx hb dX5_sum_320 (by decide) ?_
    refine lv_istore (lv' := [(8, .int x3), (0, .ref (g.1 5000)), (1, .int x1), (2, .int x2), (3, .int x3), (4, .int x4), (5, .int i5), (6, .int i6), (7, .int i7)]) hx hb dX5_sum_324 hl (by decide) rfl (fun ls hl => ?_)
    exact wX5_sum_326 hg X hr i5 i6 i7 x3 _ h H locs ls hw hS (lv_sub hl [1, 2, 3, 4, 5, 6, 7, 8, 0] rfl)
def wpX5_sum_285 (x1 : Int32) (x2 : Int32) (x3 : Int32) (x4 : Int32) (Q : RS → Prop) (i11 : Int32) (σ : RS) : Prop :=
  vp_in x1 227 ∧ (
  Q (wG σ x1 i11))
set_option maxRecDepth 100000 in
set_option maxHeartbeats 4000000 in
theorem wX5_sum_285 {p : Program} {l : Launch} {e : Env} {s : State} {m : MethodId} {args : Array Value} {below : List Frame} {meth : Method} {c : Code} {D : va_G} {A : Nat → Prop} {g : mG} (hg : inj g) {x1 : Int32} {x2 : Int32} {x3 : Int32} {x4 : Int32} (X : cx p m meth c s args cX5_sum 17 RX5 D (tyG g)) (hr : meth.sig.returnType = none) {Q : RS → Prop} : ∀ (i11 : Int32) (σ : RS), wpX5_sum_285 x1 x2 x3 x4 Q i11 σ → cW p l e rmX5_sum s m args below meth c (MQ below (va_Qv Q (fun u t => wd D A (rT g u) t.heap) A) args s 0 0 A) D A (rT g σ) 285 17 [(0, .ref (g.1 5000)), (1, .int x1), (2, .int x2), (3, .int x3), (4, .int x4), (11, .int i11)] := by
  obtain ⟨hx, hb, hml, hown, hts, hK, hlk⟩ := id X
  intro i11 σ h H locs ls hw hS hl
  unfold wpX5_sum_285 at h
  refine lv_aload_n hx hb dX5_sum_285 rfl (lv_at hl 0 rfl) ?_
  refine m_get (v := .ref (g.1 5003)) X hw qM rfl inA_X5 2 (by decide) mw_79 rfl dX5_sum_286 ?_
  refine lv_iload_n hx hb dX5_sum_289 rfl (lv_at hl 1 rfl) ?_
  refine lv_iload hx hb dX5_sum_290 (lv_at hl 5 rfl) ?_
  obtain ⟨hi, h⟩ := h
  refine m_iast (T' := rT g (wG σ x1 i11)) X hw hS qG 0 rfl hi (vG hg) dX5_sum_292 (fun H locs hw hS => ?_)
  exact m_vret X hr hw hS h dX5_sum_293
def wpX5_sum_213 (x1 : Int32) (x2 : Int32) (x3 : Int32) (x4 : Int32) (Q : RS → Prop) (N152 : Int32 → Int64 → Int32 → Int32 → Int32 → Int32 → RS → Prop) (i6 : Int32) (l7 : Int64) (i9 : Int32) (i10 : Int32) (i11 : Int32) (i12 : Int32) (σ : RS) : Prop :=
  vp_in (((440 : Int32) * x1) + i12) 99880 ∧ (
  ∀ b9 : Int64, b9 = jlshr l7 (28 : Int32) →
  ∀ a10 : Int32, a10 = i12 + (1 : Int32) →
  N152 i6 b9 i9 i10 i11 a10 (wL σ (((440 : Int32) * x1) + i12) (l7 &&& (268435455 : Int64))))
set_option maxRecDepth 100000 in
set_option maxHeartbeats 4000000 in
theorem wX5_sum_213 {p : Program} {l : Launch} {e : Env} {s : State} {m : MethodId} {args : Array Value} {below : List Frame} {meth : Method} {c : Code} {D : va_G} {A : Nat → Prop} {g : mG} (hg : inj g) {x1 : Int32} {x2 : Int32} {x3 : Int32} {x4 : Int32} (X : cx p m meth c s args cX5_sum 17 RX5 D (tyG g)) (hr : meth.sig.returnType = none) {Q : RS → Prop} {N152 : Int32 → Int64 → Int32 → Int32 → Int32 → Int32 → RS → Prop} (hN152 : ∀ (i6 : Int32) (l7 : Int64) (i9 : Int32) (i10 : Int32) (i11 : Int32) (i12 : Int32) (σ : RS), N152 i6 l7 i9 i10 i11 i12 σ → cW p l e rmX5_sum s m args below meth c (MQ below (va_Qv Q (fun u t => wd D A (rT g u) t.heap) A) args s 0 0 A) D A (rT g σ) 152 17 [(0, .ref (g.1 5000)), (1, .int x1), (2, .int x2), (3, .int x3), (4, .int x4), (6, .int i6), (7, .long l7), (9, .int i9), (10, .int i10), (11, .int i11), (12, .int i12)]) : ∀ (i6 : Int32) (l7 : Int64) (i9 : Int32) (i10 : Int32) (i11 : Int32) (i12 : Int32) (σ : RS), wpX5_sum_213 x1 x2 x3 x4 Q N152 i6 l7 i9 i10 i11 i12 σ → cW p l e rmX5_sum s m args below meth c (MQ below (va_Qv Q (fun u t => wd D A (rT g u) t.heap) A) args s 0 0 A) D A (rT g σ) 213 17 [(0, .ref (g.1 5000)), (1, .int x1), (2, .int x2), (3, .int x3), (4, .int x4), (6, .int i6), (7, .long l7), (9, .int i9), (10, .int i10), (11, .int i11), (12, .int i12)] := by
  obtain ⟨hx, hb, hml, hown, hts, hK, hlk⟩ := id X
  intro i6 l7 i9 i10 i11 i12 σ h H locs ls hw hS hl
  unfold wpX5_sum_213 at h
  refine lv_aload_n hx hb dX5_sum_213 rfl (lv_at hl 0 rfl) ?_
  refine m_get (v := .ref (g.1 5001)) X hw qM rfl inA_X5 0 (by decide) mw_77 rfl dX5_sum_214 ?_
  refine lv_sipush (v := (440 : Int32)) hx hb dX5_sum_217 (by decide) ?_
  refine lv_iload_n hx hb dX5_sum_220 rfl (lv_at hl 1 rfl) ?_
  refine lv_imul hx hb dX5_sum_221 ?_
  refine lv_iload hx hb dX5_sum_222 (lv_at hl 10 rfl) ?_
  refine lv_iadd hx hb dX5_sum_224 ?_
  refine lv_lload hx hb dX5_sum_225 (lv_at hl 6 rfl) ?_
  refine lv_ldc2 (v := (268435455 : Int64)) hx hb hown (hts _ mw_146) dX5_sum_227 ?_
  refine lv_land hx hb dX5_sum_230 ?_
  obtain ⟨hi, h⟩ := h
  refine m_last (T' := rT g (wL σ (((440 : Int32) * x1) + i12) (l7 &&& (268435455 : Int64)))) X hw hS qL 1 rfl hi (vL hg) dX5_sum_231 (fun H locs hw hS => ?_)
  refine lv_lload hx hb dX5_sum_232 (lv_at hl 6 rfl) ?_
  refine lv_bipush (v := (28 : Int32)) hx hb dX5_sum_234 (by decide) ?_
  refine lv_lshr (v := jlshr l7 (28 : Int32)) hx hb dX5_sum_236 rfl ?_
  refine lv_topl (fun b9 eb9 => ?_)
  replace h := h b9 eb9
  refine lv_lstore (lv' := [(7, .long b9), (0, .ref (g.1 5000)), (1, .int x1), (2, .int x2), (3, .int x3), (4, .int x4), (6, .int i6), (9, .int i9), (10, .int i10), (11, .int i11), (12, .int i12)]) hx hb dX5_sum_237 hl (by decide) rfl (fun ls hl => ?_)
  obtain ⟨a10, ea10⟩ : ∃ z : Int32, z = i12 + (1 : Int32) := ⟨_, rfl⟩
  replace h := h a10 ea10
  refine lv_iinc (v := a10) (lv' := [(12, .int a10), (7, .long b9), (0, .ref (g.1 5000)), (1, .int x1), (2, .int x2), (3, .int x3), (4, .int x4), (6, .int i6), (9, .int i9), (10, .int i10), (11, .int i11)]) hx hb dX5_sum_239 hl (k := 10) rfl (by rw [ea10]; rfl) (by decide) rfl (fun ls hl => ?_)
  refine lv_goto (tgt := 152) hx hb dX5_sum_242 (by decide) ?_
  exact hN152 i6 b9 i9 i10 i11 a10 _ h H locs ls hw hS (lv_sub hl [2, 3, 4, 5, 6, 7, 1, 8, 9, 10, 0] rfl)
def wbX5_sum_152 (x1 : Int32) (x2 : Int32) (x3 : Int32) (x4 : Int32) (Q : RS → Prop) (N152 : Int32 → Int64 → Int32 → Int32 → Int32 → Int32 → RS → Prop) (i6 : Int32) (l7 : Int64) (i9 : Int32) (i10 : Int32) (i11 : Int32) (i12 : Int32) (σ : RS) : Prop :=
  (i6 ≤ i12 →
    vp_in x1 227 ∧ (
    ((lg_cmp l7 (0 : Int64)) ≤ 0 →
      wpX5_sum_285 x1 x2 x3 x4 Q i11 (wS σ x1 i6)) ∧
    (¬ (lg_cmp l7 (0 : Int64)) ≤ 0 →
      vp_in (((440 : Int32) * x1) + i6) 99880 ∧ (
      vp_in x1 227 ∧ (
      vp_in x1 227 ∧ (
      wpX5_sum_285 x1 x2 x3 x4 Q i11 (wS (wL (wS σ x1 i6) (((440 : Int32) * x1) + i6) l7) x1 ((rS (wL (wS σ x1 i6) (((440 : Int32) * x1) + i6) l7) x1.toNatClampNeg) + (1 : Int32))))))))) ∧
  (¬ i6 ≤ i12 →
    (i9 ≤ i12 →
      (i10 ≤ i12 →
        ∀ b11 : Int64, b11 = l7 + ((0 : Int64) + (0 : Int64)) →
        wpX5_sum_213 x1 x2 x3 x4 Q N152 i6 b11 i9 i10 i11 i12 σ) ∧
      (¬ i10 ≤ i12 →
        vp_in (((440 : Int32) * x3) + i12) 99880 ∧ (
        ∀ b12 : Int64, b12 = l7 + ((0 : Int64) + (rL σ (((440 : Int32) * x3) + i12).toNatClampNeg)) →
        wpX5_sum_213 x1 x2 x3 x4 Q N152 i6 b12 i9 i10 i11 i12 σ))) ∧
    (¬ i9 ≤ i12 →
      vp_in (((440 : Int32) * x2) + i12) 99880 ∧ (
      (i10 ≤ i12 →
        ∀ b13 : Int64, b13 = l7 + ((rL σ (((440 : Int32) * x2) + i12).toNatClampNeg) + (0 : Int64)) →
        wpX5_sum_213 x1 x2 x3 x4 Q N152 i6 b13 i9 i10 i11 i12 σ) ∧
      (¬ i10 ≤ i12 →
        vp_in (((440 : Int32) * x3) + i12) 99880 ∧ (
        ∀ b14 : Int64, b14 = l7 + ((rL σ (((440 : Int32) * x2) + i12).toNatClampNeg) + (rL σ (((440 : Int32) * x3) + i12).toNatClampNeg)) →
        wpX5_sum_213 x1 x2 x3 x4 Q N152 i6 b14 i9 i10 i11 i12 σ)))))
set_option maxRecDepth 100000 in
set_option maxHeartbeats 4000000 in
theorem wX5_sum_152 {p : Program} {l : Launch} {e : Env} {s : State} {m : MethodId} {args : Array Value} {below : List Frame} {meth : Method} {c : Code} {D : va_G} {A : Nat → Prop} {g : mG} (hg : inj g) {x1 : Int32} {x2 : Int32} {x3 : Int32} {x4 : Int32} (X : cx p m meth c s args cX5_sum 17 RX5 D (tyG g)) (hr : meth.sig.returnType = none) {Q : RS → Prop} : ∀ (n : Nat) (i6 : Int32) (l7 : Int64) (i9 : Int32) (i10 : Int32) (i11 : Int32) (i12 : Int32) (σ : RS), lq7 (wbX5_sum_152 x1 x2 x3 x4 Q) n i6 l7 i9 i10 i11 i12 σ → cW p l e rmX5_sum s m args below meth c (MQ below (va_Qv Q (fun u t => wd D A (rT g u) t.heap) A) args s 0 0 A) D A (rT g σ) 152 17 [(0, .ref (g.1 5000)), (1, .int x1), (2, .int x2), (3, .int x3), (4, .int x4), (6, .int i6), (7, .long l7), (9, .int i9), (10, .int i10), (11, .int i11), (12, .int i12)] := by
  obtain ⟨hx, hb, hml, hown, hts, hK, hlk⟩ := id X
  intro n
  induction n with
  | zero =>
    intro i6 l7 i9 i10 i11 i12 σ h
    exact h.elim
  | succ n hN152 =>
    intro i6 l7 i9 i10 i11 i12 σ h H locs ls hw hS hl
    replace h : wbX5_sum_152 x1 x2 x3 x4 Q (lq7 (wbX5_sum_152 x1 x2 x3 x4 Q) n) i6 l7 i9 i10 i11 i12 σ := h
    unfold wbX5_sum_152 at h
    refine lv_iload hx hb dX5_sum_152 (lv_at hl 10 rfl) ?_
    refine lv_iload hx hb dX5_sum_154 (lv_at hl 5 rfl) ?_
    refine lv_icmp_ge (tgt := 245) hx hb dX5_sum_156 (by decide) (fun hc => ?_) (fun hc => ?_)
    · replace h := h.1 hc
      refine lv_aload_n hx hb dX5_sum_245 rfl (lv_at hl 0 rfl) ?_
      refine m_get (v := .ref (g.1 5002)) X hw qM rfl inA_X5 1 (by decide) mw_78 rfl dX5_sum_246 ?_
      refine lv_iload_n hx hb dX5_sum_249 rfl (lv_at hl 1 rfl) ?_
      refine lv_iload hx hb dX5_sum_250 (lv_at hl 5 rfl) ?_
      obtain ⟨hi, h⟩ := h
      refine m_iast (T' := rT g (wS σ x1 i6)) X hw hS qS 0 rfl hi (vS hg) dX5_sum_252 (fun H locs hw hS => ?_)
      refine lv_lload hx hb dX5_sum_253 (lv_at hl 6 rfl) ?_
      refine lv_lconst (v := (0 : Int64)) hx hb dX5_sum_255 (by decide) ?_
      refine W.lcmp hx hb dX5_sum_256 ?_
      refine lv_if_le (tgt := 285) hx hb dX5_sum_257 (by decide) (fun hc => ?_) (fun hc => ?_)
      · replace h := h.1 hc
        exact wX5_sum_285 hg X hr i11 _ h H locs ls hw hS (lv_sub hl [0, 1, 2, 3, 4, 9] rfl)
      · replace h := h.2 hc
        refine lv_aload_n hx hb dX5_sum_260 rfl (lv_at hl 0 rfl) ?_
        refine m_get (v := .ref (g.1 5001)) X hw qM rfl inA_X5 0 (by decide) mw_77 rfl dX5_sum_261 ?_
        refine lv_sipush (v := (440 : Int32)) hx hb dX5_sum_264 (by decide) ?_
        refine lv_iload_n hx hb dX5_sum_267 rfl (lv_at hl 1 rfl) ?_
        refine lv_imul hx hb dX5_sum_268 ?_
        refine lv_iload hx hb dX5_sum_269 (lv_at hl 5 rfl) ?_
        refine lv_iadd hx hb dX5_sum_271 ?_
        refine lv_lload hx hb dX5_sum_272 (lv_at hl 6 rfl) ?_
        obtain ⟨hi, h⟩ := h
        refine m_last (T' := rT g (wL (wS σ x1 i6) (((440 : Int32) * x1) + i6) l7)) X hw hS qL 1 rfl hi (vL hg) dX5_sum_274 (fun H locs hw hS => ?_)
        refine lv_aload_n hx hb dX5_sum_275 rfl (lv_at hl 0 rfl) ?_
        refine m_get (v := .ref (g.1 5002)) X hw qM rfl inA_X5 1 (by decide) mw_78 rfl dX5_sum_276 ?_
        refine lv_iload_n hx hb dX5_sum_279 rfl (lv_at hl 1 rfl) ?_
        refine lv_dup2_11 hx hb dX5_sum_280 rfl rfl ?_
        obtain ⟨hi, h⟩ := h
        refine m_iald X hw qS 0 rfl hi dX5_sum_281 ?_
        refine lv_iconst (v := (1 : Int32)) hx hb dX5_sum_282 (by decide) ?_
        refine lv_iadd hx hb dX5_sum_283 ?_
        obtain ⟨hi, h⟩ := h
        refine m_iast (T' := rT g (wS (wL (wS σ x1 i6) (((440 : Int32) * x1) + i6) l7) x1 ((rS (wL (wS σ x1 i6) (((440 : Int32) * x1) + i6) l7) x1.toNatClampNeg) + (1 : Int32)))) X hw hS qS 0 rfl hi (vS hg) dX5_sum_284 (fun H locs hw hS => ?_)
        exact wX5_sum_285 hg X hr i11 _ h H locs ls hw hS (lv_sub hl [0, 1, 2, 3, 4, 9] rfl)
    · replace h := h.2 hc
      refine lv_lload hx hb dX5_sum_159 (lv_at hl 6 rfl) ?_
      refine lv_iload hx hb dX5_sum_161 (lv_at hl 10 rfl) ?_
      refine lv_iload hx hb dX5_sum_163 (lv_at hl 7 rfl) ?_
      refine lv_icmp_ge (tgt := 184) hx hb dX5_sum_165 (by decide) (fun hc => ?_) (fun hc => ?_)
      · replace h := h.1 hc
        refine lv_lconst (v := (0 : Int64)) hx hb dX5_sum_184 (by decide) ?_
        refine lv_iload hx hb dX5_sum_185 (lv_at hl 10 rfl) ?_
        refine lv_iload hx hb dX5_sum_187 (lv_at hl 8 rfl) ?_
        refine lv_icmp_ge (tgt := 208) hx hb dX5_sum_189 (by decide) (fun hc => ?_) (fun hc => ?_)
        · replace h := h.1 hc
          refine lv_lconst (v := (0 : Int64)) hx hb dX5_sum_208 (by decide) ?_
          refine lv_ladd hx hb dX5_sum_209 ?_
          refine lv_ladd hx hb dX5_sum_210 ?_
          refine lv_topl (fun b11 eb11 => ?_)
          replace h := h b11 eb11
          refine lv_lstore (lv' := [(7, .long b11), (0, .ref (g.1 5000)), (1, .int x1), (2, .int x2), (3, .int x3), (4, .int x4), (6, .int i6), (9, .int i9), (10, .int i10), (11, .int i11), (12, .int i12)]) hx hb dX5_sum_211 hl (by decide) rfl (fun ls hl => ?_)
          exact wX5_sum_213 hg X hr hN152 i6 b11 i9 i10 i11 i12 _ h H locs ls hw hS (lv_sub hl [1, 2, 3, 4, 5, 6, 0, 7, 8, 9, 10] rfl)
        · replace h := h.2 hc
          refine lv_aload_n hx hb dX5_sum_192 rfl (lv_at hl 0 rfl) ?_
          refine m_get (v := .ref (g.1 5001)) X hw qM rfl inA_X5 0 (by decide) mw_77 rfl dX5_sum_193 ?_
          refine lv_sipush (v := (440 : Int32)) hx hb dX5_sum_196 (by decide) ?_
          refine lv_iload_n hx hb dX5_sum_199 rfl (lv_at hl 3 rfl) ?_
          refine lv_imul hx hb dX5_sum_200 ?_
          refine lv_iload hx hb dX5_sum_201 (lv_at hl 10 rfl) ?_
          refine lv_iadd hx hb dX5_sum_203 ?_
          obtain ⟨hi, h⟩ := h
          refine m_lald X hw qL 1 rfl hi dX5_sum_204 ?_
          refine lv_goto (tgt := 209) hx hb dX5_sum_205 (by decide) ?_
          refine lv_ladd hx hb dX5_sum_209 ?_
          refine lv_ladd hx hb dX5_sum_210 ?_
          refine lv_topl (fun b12 eb12 => ?_)
          replace h := h b12 eb12
          refine lv_lstore (lv' := [(7, .long b12), (0, .ref (g.1 5000)), (1, .int x1), (2, .int x2), (3, .int x3), (4, .int x4), (6, .int i6), (9, .int i9), (10, .int i10), (11, .int i11), (12, .int i12)]) hx hb dX5_sum_211 hl (by decide) rfl (fun ls hl => ?_)
          exact wX5_sum_213 hg X hr hN152 i6 b12 i9 i10 i11 i12 _ h H locs ls hw hS (lv_sub hl [1, 2, 3, 4, 5, 6, 0, 7, 8, 9, 10] rfl)
      · replace h := h.2 hc
        refine lv_aload_n hx hb dX5_sum_168 rfl (lv_at hl 0 rfl) ?_
        refine m_get (v := .ref (g.1 5001)) X hw qM rfl inA_X5 0 (by decide) mw_77 rfl dX5_sum_169 ?_
        refine lv_sipush (v := (440 : Int32)) hx hb dX5_sum_172 (by decide) ?_
        refine lv_iload_n hx hb dX5_sum_175 rfl (lv_at hl 2 rfl) ?_
        refine lv_imul hx hb dX5_sum_176 ?_
        refine lv_iload hx hb dX5_sum_177 (lv_at hl 10 rfl) ?_
        refine lv_iadd hx hb dX5_sum_179 ?_
        obtain ⟨hi, h⟩ := h
        refine m_lald X hw qL 1 rfl hi dX5_sum_180 ?_
        refine lv_goto (tgt := 185) hx hb dX5_sum_181 (by decide) ?_
        refine lv_iload hx hb dX5_sum_185 (lv_at hl 10 rfl) ?_
        refine lv_iload hx hb dX5_sum_187 (lv_at hl 8 rfl) ?_
        refine lv_icmp_ge (tgt := 208) hx hb dX5_sum_189 (by decide) (fun hc => ?_) (fun hc => ?_)
        · replace h := h.1 hc
          refine lv_lconst (v := (0 : Int64)) hx hb dX5_sum_208 (by decide) ?_
          refine lv_ladd hx hb dX5_sum_209 ?_
          refine lv_ladd hx hb dX5_sum_210 ?_
          refine lv_topl (fun b13 eb13 => ?_)
          replace h := h b13 eb13
          refine lv_lstore (lv' := [(7, .long b13), (0, .ref (g.1 5000)), (1, .int x1), (2, .int x2), (3, .int x3), (4, .int x4), (6, .int i6), (9, .int i9), (10, .int i10), (11, .int i11), (12, .int i12)]) hx hb dX5_sum_211 hl (by decide) rfl (fun ls hl => ?_)
          exact wX5_sum_213 hg X hr hN152 i6 b13 i9 i10 i11 i12 _ h H locs ls hw hS (lv_sub hl [1, 2, 3, 4, 5, 6, 0, 7, 8, 9, 10] rfl)
        · replace h := h.2 hc
          refine lv_aload_n hx hb dX5_sum_192 rfl (lv_at hl 0 rfl) ?_
          refine m_get (v := .ref (g.1 5001)) X hw qM rfl inA_X5 0 (by decide) mw_77 rfl dX5_sum_193 ?_
          refine lv_sipush (v := (440 : Int32)) hx hb dX5_sum_196 (by decide) ?_
          refine lv_iload_n hx hb dX5_sum_199 rfl (lv_at hl 3 rfl) ?_
          refine lv_imul hx hb dX5_sum_200 ?_
          refine lv_iload hx hb dX5_sum_201 (lv_at hl 10 rfl) ?_
          refine lv_iadd hx hb dX5_sum_203 ?_
          obtain ⟨hi, h⟩ := h
          refine m_lald X hw qL 1 rfl hi dX5_sum_204 ?_
          refine lv_goto (tgt := 209) hx hb dX5_sum_205 (by decide) ?_
          refine lv_ladd hx hb dX5_sum_209 ?_
          refine lv_ladd hx hb dX5_sum_210 ?_
          refine lv_topl (fun b14 eb14 => ?_)
          replace h := h b14 eb14
          refine lv_lstore (lv' := [(7, .long b14), (0, .ref (g.1 5000)), (1, .int x1), (2, .int x2), (3, .int x3), (4, .int x4), (6, .int i6), (9, .int i9), (10, .int i10), (11, .int i11), (12, .int i12)]) hx hb dX5_sum_211 hl (by decide) rfl (fun ls hl => ?_)
          exact wX5_sum_213 hg X hr hN152 i6 b14 i9 i10 i11 i12 _ h H locs ls hw hS (lv_sub hl [1, 2, 3, 4, 5, 6, 0, 7, 8, 9, 10] rfl)
def wpX5_sum_122 (x1 : Int32) (x2 : Int32) (x3 : Int32) (x4 : Int32) (Q : RS → Prop) (i6 : Int32) (σ : RS) : Prop :=
  vp_in x2 227 ∧ (
  ∀ a15 : Int32, a15 = rS σ x2.toNatClampNeg →
  vp_in x3 227 ∧ (
  ∀ a16 : Int32, a16 = rS σ x3.toNatClampNeg →
  vp_in x2 227 ∧ (
  ∀ a17 : Int32, a17 = rG σ x2.toNatClampNeg →
  ∃ n, lq7 (wbX5_sum_152 x1 x2 x3 x4 Q) n i6 (0 : Int64) a15 a16 a17 (0 : Int32) σ)))
set_option maxRecDepth 100000 in
set_option maxHeartbeats 4000000 in
theorem wX5_sum_122 {p : Program} {l : Launch} {e : Env} {s : State} {m : MethodId} {args : Array Value} {below : List Frame} {meth : Method} {c : Code} {D : va_G} {A : Nat → Prop} {g : mG} (hg : inj g) {x1 : Int32} {x2 : Int32} {x3 : Int32} {x4 : Int32} (X : cx p m meth c s args cX5_sum 17 RX5 D (tyG g)) (hr : meth.sig.returnType = none) {Q : RS → Prop} : ∀ (i6 : Int32) (σ : RS), wpX5_sum_122 x1 x2 x3 x4 Q i6 σ → cW p l e rmX5_sum s m args below meth c (MQ below (va_Qv Q (fun u t => wd D A (rT g u) t.heap) A) args s 0 0 A) D A (rT g σ) 122 17 [(0, .ref (g.1 5000)), (1, .int x1), (2, .int x2), (3, .int x3), (4, .int x4), (6, .int i6)] := by
  obtain ⟨hx, hb, hml, hown, hts, hK, hlk⟩ := id X
  intro i6 σ h H locs ls hw hS hl
  unfold wpX5_sum_122 at h
  refine lv_lconst (v := (0 : Int64)) hx hb dX5_sum_122 (by decide) ?_
  refine lv_lstore (lv' := [(7, .long (0 : Int64)), (0, .ref (g.1 5000)), (1, .int x1), (2, .int x2), (3, .int x3), (4, .int x4), (6, .int i6)]) hx hb dX5_sum_123 hl (by decide) rfl (fun ls hl => ?_)
  refine lv_aload_n hx hb dX5_sum_125 rfl (lv_at hl 1 rfl) ?_
  refine m_get (v := .ref (g.1 5002)) X hw qM rfl inA_X5 1 (by decide) mw_78 rfl dX5_sum_126 ?_
  refine lv_iload_n hx hb dX5_sum_129 rfl (lv_at hl 3 rfl) ?_
  obtain ⟨hi, h⟩ := h
  refine m_iald X hw qS 0 rfl hi dX5_sum_130 ?_
  refine lv_topi (fun a15 ea15 => ?_)
  replace h := h a15 ea15
  refine lv_istore (lv' := [(9, .int a15), (7, .long (0 : Int64)), (0, .ref (g.1 5000)), (1, .int x1), (2, .int x2), (3, .int x3), (4, .int x4), (6, .int i6)]) hx hb dX5_sum_131 hl (by decide) rfl (fun ls hl => ?_)
  refine lv_aload_n hx hb dX5_sum_133 rfl (lv_at hl 2 rfl) ?_
  refine m_get (v := .ref (g.1 5002)) X hw qM rfl inA_X5 1 (by decide) mw_78 rfl dX5_sum_134 ?_
  refine lv_iload_n hx hb dX5_sum_137 rfl (lv_at hl 5 rfl) ?_
  obtain ⟨hi, h⟩ := h
  refine m_iald X hw qS 0 rfl hi dX5_sum_138 ?_
  refine lv_topi (fun a16 ea16 => ?_)
  replace h := h a16 ea16
  refine lv_istore (lv' := [(10, .int a16), (9, .int a15), (7, .long (0 : Int64)), (0, .ref (g.1 5000)), (1, .int x1), (2, .int x2), (3, .int x3), (4, .int x4), (6, .int i6)]) hx hb dX5_sum_139 hl (by decide) rfl (fun ls hl => ?_)
  refine lv_aload_n hx hb dX5_sum_141 rfl (lv_at hl 3 rfl) ?_
  refine m_get (v := .ref (g.1 5003)) X hw qM rfl inA_X5 2 (by decide) mw_79 rfl dX5_sum_142 ?_
  refine lv_iload_n hx hb dX5_sum_145 rfl (lv_at hl 5 rfl) ?_
  obtain ⟨hi, h⟩ := h
  refine m_iald X hw qG 0 rfl hi dX5_sum_146 ?_
  refine lv_topi (fun a17 ea17 => ?_)
  replace h := h a17 ea17
  refine lv_istore (lv' := [(11, .int a17), (10, .int a16), (9, .int a15), (7, .long (0 : Int64)), (0, .ref (g.1 5000)), (1, .int x1), (2, .int x2), (3, .int x3), (4, .int x4), (6, .int i6)]) hx hb dX5_sum_147 hl (by decide) rfl (fun ls hl => ?_)
  refine lv_iconst (v := (0 : Int32)) hx hb dX5_sum_149 (by decide) ?_
  refine lv_istore (lv' := [(12, .int (0 : Int32)), (11, .int a17), (10, .int a16), (9, .int a15), (7, .long (0 : Int64)), (0, .ref (g.1 5000)), (1, .int x1), (2, .int x2), (3, .int x3), (4, .int x4), (6, .int i6)]) hx hb dX5_sum_150 hl (by decide) rfl (fun ls hl => ?_)
  obtain ⟨n9, h⟩ := h
  exact wX5_sum_152 hg X hr n9 i6 (0 : Int64) a15 a16 a17 (0 : Int32) _ h H locs ls hw hS (lv_sub hl [5, 6, 7, 8, 9, 10, 4, 3, 2, 1, 0] rfl)
def wpX5_sum_63 (x1 : Int32) (x2 : Int32) (x3 : Int32) (x4 : Int32) (Q : RS → Prop) (i6 : Int32) (i7 : Int32) (σ : RS) : Prop :=
  wpX5_copy i6 x1 σ (fun (σ19 : RS) =>
    vp_in x1 227 ∧ (
    Q (wG σ19 x1 i7)))
set_option maxRecDepth 100000 in
set_option maxHeartbeats 4000000 in
theorem wX5_sum_63 {p : Program} {l : Launch} {e : Env} {s : State} {m : MethodId} {args : Array Value} {below : List Frame} {meth : Method} {c : Code} {D : va_G} {A : Nat → Prop} {g : mG} (hg : inj g) {x1 : Int32} {x2 : Int32} {x3 : Int32} {x4 : Int32} (X : cx p m meth c s args cX5_sum 17 RX5 D (tyG g)) (hr : meth.sig.returnType = none) {Q : RS → Prop} : ∀ (i6 : Int32) (i7 : Int32) (σ : RS), wpX5_sum_63 x1 x2 x3 x4 Q i6 i7 σ → cW p l e rmX5_sum s m args below meth c (MQ below (va_Qv Q (fun u t => wd D A (rT g u) t.heap) A) args s 0 0 A) D A (rT g σ) 63 17 [(0, .ref (g.1 5000)), (1, .int x1), (2, .int x2), (3, .int x3), (4, .int x4), (6, .int i6), (7, .int i7)] := by
  obtain ⟨hx, hb, hml, hown, hts, hK, hlk⟩ := id X
  intro i6 i7 σ h H locs ls hw hS hl
  unfold wpX5_sum_63 at h
  refine lv_aload_n hx hb dX5_sum_63 rfl (lv_at hl 0 rfl) ?_
  refine lv_iload hx hb dX5_sum_64 (lv_at hl 5 rfl) ?_
  refine lv_iload_n hx hb dX5_sum_66 rfl (lv_at hl 1 rfl) ?_
  refine m_cVv (TT := rT g) (As := [.int i6, .int x1]) (rest := []) X hl.1 hw hS (kX5_copy hg h) mw_159 fX5_copy qM rfl rfl ⟨rfl, rfl, Nat.le_of_ble_eq_true rfl, Nat.le_of_ble_eq_true rfl⟩ rfl rfl (Nat.le_of_ble_eq_true rfl) dX5_sum_67 (fun σ19 H locs h hw hS => ?_)
  refine lv_aload_n hx hb dX5_sum_70 rfl (lv_at hl 0 rfl) ?_
  refine m_get (v := .ref (g.1 5003)) X hw qM rfl inA_X5 2 (by decide) mw_79 rfl dX5_sum_71 ?_
  refine lv_iload_n hx hb dX5_sum_74 rfl (lv_at hl 1 rfl) ?_
  refine lv_iload hx hb dX5_sum_75 (lv_at hl 6 rfl) ?_
  obtain ⟨hi, h⟩ := h
  refine m_iast (T' := rT g (wG σ19 x1 i7)) X hw hS qG 0 rfl hi (vG hg) dX5_sum_77 (fun H locs hw hS => ?_)
  exact m_vret X hr hw hS h dX5_sum_78
def wpX5_sum_41 (x1 : Int32) (x2 : Int32) (x3 : Int32) (x4 : Int32) (Q : RS → Prop) (i5 : Int32) (i6 : Int32) (σ : RS) : Prop :=
  vp_in x2 227 ∧ (
  (¬ (rG σ x2.toNatClampNeg) = 0 →
    vp_in x2 227 ∧ (
    ∀ a20 : Int32, a20 = rG σ x2.toNatClampNeg →
    wpX5_sum_63 x1 x2 x3 x4 Q i6 a20 σ)) ∧
  ((rG σ x2.toNatClampNeg) = 0 →
    wpX5_sum_63 x1 x2 x3 x4 Q i6 i5 σ))
set_option maxRecDepth 100000 in
set_option maxHeartbeats 4000000 in
theorem wX5_sum_41 {p : Program} {l : Launch} {e : Env} {s : State} {m : MethodId} {args : Array Value} {below : List Frame} {meth : Method} {c : Code} {D : va_G} {A : Nat → Prop} {g : mG} (hg : inj g) {x1 : Int32} {x2 : Int32} {x3 : Int32} {x4 : Int32} (X : cx p m meth c s args cX5_sum 17 RX5 D (tyG g)) (hr : meth.sig.returnType = none) {Q : RS → Prop} : ∀ (i5 : Int32) (i6 : Int32) (σ : RS), wpX5_sum_41 x1 x2 x3 x4 Q i5 i6 σ → cW p l e rmX5_sum s m args below meth c (MQ below (va_Qv Q (fun u t => wd D A (rT g u) t.heap) A) args s 0 0 A) D A (rT g σ) 41 17 [(0, .ref (g.1 5000)), (1, .int x1), (2, .int x2), (3, .int x3), (4, .int x4), (5, .int i5), (6, .int i6)] := by
  obtain ⟨hx, hb, hml, hown, hts, hK, hlk⟩ := id X
  intro i5 i6 σ h H locs ls hw hS hl
  unfold wpX5_sum_41 at h
  refine lv_aload_n hx hb dX5_sum_41 rfl (lv_at hl 0 rfl) ?_
  refine m_get (v := .ref (g.1 5003)) X hw qM rfl inA_X5 2 (by decide) mw_79 rfl dX5_sum_42 ?_
  refine lv_iload_n hx hb dX5_sum_45 rfl (lv_at hl 2 rfl) ?_
  obtain ⟨hi, h⟩ := h
  refine m_iald X hw qG 0 rfl hi dX5_sum_46 ?_
  refine lv_if_ne (tgt := 55) hx hb dX5_sum_47 (by decide) (fun hc => ?_) (fun hc => ?_)
  · replace h := h.1 hc
    refine lv_aload_n hx hb dX5_sum_55 rfl (lv_at hl 0 rfl) ?_
    refine m_get (v := .ref (g.1 5003)) X hw qM rfl inA_X5 2 (by decide) mw_79 rfl dX5_sum_56 ?_
    refine lv_iload_n hx hb dX5_sum_59 rfl (lv_at hl 2 rfl) ?_
    obtain ⟨hi, h⟩ := h
    refine m_iald X hw qG 0 rfl hi dX5_sum_60 ?_
    refine lv_topi (fun a20 ea20 => ?_)
    replace h := h a20 ea20
    refine lv_istore (lv' := [(7, .int a20), (0, .ref (g.1 5000)), (1, .int x1), (2, .int x2), (3, .int x3), (4, .int x4), (5, .int i5), (6, .int i6)]) hx hb dX5_sum_61 hl (by decide) rfl (fun ls hl => ?_)
    exact wX5_sum_63 hg X hr i6 a20 _ h H locs ls hw hS (lv_sub hl [1, 2, 3, 4, 5, 7, 0] rfl)
  · replace h := h.2 hc
    refine lv_iload hx hb dX5_sum_50 (lv_at hl 5 rfl) ?_
    refine lv_goto (tgt := 61) hx hb dX5_sum_52 (by decide) ?_
    refine lv_istore (lv' := [(7, .int i5), (0, .ref (g.1 5000)), (1, .int x1), (2, .int x2), (3, .int x3), (4, .int x4), (5, .int i5), (6, .int i6)]) hx hb dX5_sum_61 hl (by decide) rfl (fun ls hl => ?_)
    exact wX5_sum_63 hg X hr i6 i5 _ h H locs ls hw hS (lv_sub hl [1, 2, 3, 4, 5, 7, 0] rfl)
def wpX5_sum_25 (x1 : Int32) (x2 : Int32) (x3 : Int32) (x4 : Int32) (Q : RS → Prop) (i5 : Int32) (σ : RS) : Prop :=
  vp_in x2 227 ∧ (
  (¬ (rG σ x2.toNatClampNeg) = 0 →
    wpX5_sum_41 x1 x2 x3 x4 Q i5 x2 σ) ∧
  ((rG σ x2.toNatClampNeg) = 0 →
    wpX5_sum_41 x1 x2 x3 x4 Q i5 x3 σ))
set_option maxRecDepth 100000 in
set_option maxHeartbeats 4000000 in
theorem wX5_sum_25 {p : Program} {l : Launch} {e : Env} {s : State} {m : MethodId} {args : Array Value} {below : List Frame} {meth : Method} {c : Code} {D : va_G} {A : Nat → Prop} {g : mG} (hg : inj g) {x1 : Int32} {x2 : Int32} {x3 : Int32} {x4 : Int32} (X : cx p m meth c s args cX5_sum 17 RX5 D (tyG g)) (hr : meth.sig.returnType = none) {Q : RS → Prop} : ∀ (i5 : Int32) (σ : RS), wpX5_sum_25 x1 x2 x3 x4 Q i5 σ → cW p l e rmX5_sum s m args below meth c (MQ below (va_Qv Q (fun u t => wd D A (rT g u) t.heap) A) args s 0 0 A) D A (rT g σ) 25 17 [(0, .ref (g.1 5000)), (1, .int x1), (2, .int x2), (3, .int x3), (4, .int x4), (5, .int i5)] := by
  obtain ⟨hx, hb, hml, hown, hts, hK, hlk⟩ := id X
  intro i5 σ h H locs ls hw hS hl
  unfold wpX5_sum_25 at h
  refine lv_aload_n hx hb dX5_sum_25 rfl (lv_at hl 0 rfl) ?_
  refine m_get (v := .ref (g.1 5003)) X hw qM rfl inA_X5 2 (by decide) mw_79 rfl dX5_sum_26 ?_
  refine lv_iload_n hx hb dX5_sum_29 rfl (lv_at hl 2 rfl) ?_
  obtain ⟨hi, h⟩ := h
  refine m_iald X hw qG 0 rfl hi dX5_sum_30 ?_
  refine lv_if_ne (tgt := 38) hx hb dX5_sum_31 (by decide) (fun hc => ?_) (fun hc => ?_)
  · replace h := h.1 hc
    refine lv_iload_n hx hb dX5_sum_38 rfl (lv_at hl 2 rfl) ?_
    refine lv_istore (lv' := [(6, .int x2), (0, .ref (g.1 5000)), (1, .int x1), (2, .int x2), (3, .int x3), (4, .int x4), (5, .int i5)]) hx hb dX5_sum_39 hl (by decide) rfl (fun ls hl => ?_)
    exact wX5_sum_41 hg X hr i5 x2 _ h H locs ls hw hS (lv_sub hl [1, 2, 3, 4, 5, 6, 0] rfl)
  · replace h := h.2 hc
    refine lv_iload_n hx hb dX5_sum_34 rfl (lv_at hl 3 rfl) ?_
    refine lv_goto (tgt := 39) hx hb dX5_sum_35 (by decide) ?_
    refine lv_istore (lv' := [(6, .int x3), (0, .ref (g.1 5000)), (1, .int x1), (2, .int x2), (3, .int x3), (4, .int x4), (5, .int i5)]) hx hb dX5_sum_39 hl (by decide) rfl (fun ls hl => ?_)
    exact wX5_sum_41 hg X hr i5 x3 _ h H locs ls hw hS (lv_sub hl [1, 2, 3, 4, 5, 6, 0] rfl)
def wpX5_sum_0 (x1 : Int32) (x2 : Int32) (x3 : Int32) (x4 : Int32) (Q : RS → Prop) (σ : RS) : Prop :=
  vp_in x3 227 ∧ (
  ∀ a21 : Int32, a21 = x4 * (rG σ x3.toNatClampNeg) →
  vp_in x2 227 ∧ (
  ((rG σ x2.toNatClampNeg) = 0 →
    wpX5_sum_25 x1 x2 x3 x4 Q a21 σ) ∧
  (¬ (rG σ x2.toNatClampNeg) = 0 →
    (¬ a21 = 0 →
      vp_in x2 227 ∧ (
      (¬ (rG σ x2.toNatClampNeg) = a21 →
        wpX5_compareSizes x2 x3 σ (fun (r22 : Int32) (σ23 : RS) =>
          (r22 < 0 →
            wpX5_sum_314 x1 x2 x3 x4 Q a21 r22 x3 σ23) ∧
          (¬ r22 < 0 →
            wpX5_sum_314 x1 x2 x3 x4 Q a21 r22 x2 σ23))) ∧
      ((rG σ x2.toNatClampNeg) = a21 →
        vp_in x2 227 ∧ (
        vp_in x3 227 ∧ (
        ((rS σ x2.toNatClampNeg) ≤ (rS σ x3.toNatClampNeg) →
          vp_in x3 227 ∧ (
          ∀ a24 : Int32, a24 = rS σ x3.toNatClampNeg →
          wpX5_sum_122 x1 x2 x3 x4 Q a24 σ)) ∧
        (¬ (rS σ x2.toNatClampNeg) ≤ (rS σ x3.toNatClampNeg) →
          vp_in x2 227 ∧ (
          ∀ a25 : Int32, a25 = rS σ x2.toNatClampNeg →
          wpX5_sum_122 x1 x2 x3 x4 Q a25 σ))))))) ∧
    (a21 = 0 →
      wpX5_sum_25 x1 x2 x3 x4 Q a21 σ))))
set_option maxRecDepth 100000 in
set_option maxHeartbeats 4000000 in
theorem wX5_sum_0 {p : Program} {l : Launch} {e : Env} {s : State} {m : MethodId} {args : Array Value} {below : List Frame} {meth : Method} {c : Code} {D : va_G} {A : Nat → Prop} {g : mG} (hg : inj g) {x1 : Int32} {x2 : Int32} {x3 : Int32} {x4 : Int32} (X : cx p m meth c s args cX5_sum 17 RX5 D (tyG g)) (hr : meth.sig.returnType = none) {Q : RS → Prop} : ∀ (σ : RS), wpX5_sum_0 x1 x2 x3 x4 Q σ → cW p l e rmX5_sum s m args below meth c (MQ below (va_Qv Q (fun u t => wd D A (rT g u) t.heap) A) args s 0 0 A) D A (rT g σ) 0 17 [(0, .ref (g.1 5000)), (1, .int x1), (2, .int x2), (3, .int x3), (4, .int x4)] := by
  obtain ⟨hx, hb, hml, hown, hts, hK, hlk⟩ := id X
  intro σ h H locs ls hw hS hl
  unfold wpX5_sum_0 at h
  refine lv_iload hx hb dX5_sum_0 (lv_at hl 4 rfl) ?_
  refine lv_aload_n hx hb dX5_sum_2 rfl (lv_at hl 0 rfl) ?_
  refine m_get (v := .ref (g.1 5003)) X hw qM rfl inA_X5 2 (by decide) mw_79 rfl dX5_sum_3 ?_
  refine lv_iload_n hx hb dX5_sum_6 rfl (lv_at hl 3 rfl) ?_
  obtain ⟨hi, h⟩ := h
  refine m_iald X hw qG 0 rfl hi dX5_sum_7 ?_
  refine lv_imul hx hb dX5_sum_8 ?_
  refine lv_topi (fun a21 ea21 => ?_)
  replace h := h a21 ea21
  refine lv_istore (lv' := [(5, .int a21), (0, .ref (g.1 5000)), (1, .int x1), (2, .int x2), (3, .int x3), (4, .int x4)]) hx hb dX5_sum_9 hl (by decide) rfl (fun ls hl => ?_)
  refine lv_aload_n hx hb dX5_sum_11 rfl (lv_at hl 1 rfl) ?_
  refine m_get (v := .ref (g.1 5003)) X hw qM rfl inA_X5 2 (by decide) mw_79 rfl dX5_sum_12 ?_
  refine lv_iload_n hx hb dX5_sum_15 rfl (lv_at hl 3 rfl) ?_
  obtain ⟨hi, h⟩ := h
  refine m_iald X hw qG 0 rfl hi dX5_sum_16 ?_
  refine lv_if_eq (tgt := 25) hx hb dX5_sum_17 (by decide) (fun hc => ?_) (fun hc => ?_)
  · replace h := h.1 hc
    exact wX5_sum_25 hg X hr a21 _ h H locs ls hw hS (lv_sub hl [1, 2, 3, 4, 5, 0] rfl)
  · replace h := h.2 hc
    refine lv_iload hx hb dX5_sum_20 (lv_at hl 0 rfl) ?_
    refine lv_if_ne (tgt := 79) hx hb dX5_sum_22 (by decide) (fun hc => ?_) (fun hc => ?_)
    · replace h := h.1 hc
      refine lv_aload_n hx hb dX5_sum_79 rfl (lv_at hl 1 rfl) ?_
      refine m_get (v := .ref (g.1 5003)) X hw qM rfl inA_X5 2 (by decide) mw_79 rfl dX5_sum_80 ?_
      refine lv_iload_n hx hb dX5_sum_83 rfl (lv_at hl 3 rfl) ?_
      obtain ⟨hi, h⟩ := h
      refine m_iald X hw qG 0 rfl hi dX5_sum_84 ?_
      refine lv_iload hx hb dX5_sum_85 (lv_at hl 0 rfl) ?_
      refine lv_icmp_ne (tgt := 294) hx hb dX5_sum_87 (by decide) (fun hc => ?_) (fun hc => ?_)
      · replace h := h.1 hc
        refine lv_aload_n hx hb dX5_sum_294 rfl (lv_at hl 1 rfl) ?_
        refine lv_iload_n hx hb dX5_sum_295 rfl (lv_at hl 3 rfl) ?_
        refine lv_iload_n hx hb dX5_sum_296 rfl (lv_at hl 4 rfl) ?_
        refine m_cVi (TT := rT g) (As := [.int x2, .int x3]) (rest := []) X hl.1 hw hS (kX5_compareSizes hg h) mw_163 fX5_compareSizes qM rfl rfl ⟨rfl, rfl, Nat.le_of_ble_eq_true rfl, Nat.le_of_ble_eq_true rfl⟩ rfl rfl (Nat.le_of_ble_eq_true rfl) dX5_sum_297 (fun r22 σ23 H locs h hw hS => ?_)
        refine lv_istore (lv' := [(6, .int r22), (5, .int a21), (0, .ref (g.1 5000)), (1, .int x1), (2, .int x2), (3, .int x3), (4, .int x4)]) hx hb dX5_sum_300 hl (by decide) rfl (fun ls hl => ?_)
        refine lv_iload hx hb dX5_sum_302 (lv_at hl 0 rfl) ?_
        refine lv_if_lt (tgt := 311) hx hb dX5_sum_304 (by decide) (fun hc => ?_) (fun hc => ?_)
        · replace h := h.1 hc
          refine lv_iload_n hx hb dX5_sum_311 rfl (lv_at hl 5 rfl) ?_
          refine lv_istore (lv' := [(7, .int x3), (6, .int r22), (5, .int a21), (0, .ref (g.1 5000)), (1, .int x1), (2, .int x2), (3, .int x3), (4, .int x4)]) hx hb dX5_sum_312 hl (by decide) rfl (fun ls hl => ?_)
          exact wX5_sum_314 hg X hr a21 r22 x3 _ h H locs ls hw hS (lv_sub hl [3, 4, 5, 6, 7, 2, 1, 0] rfl)
        · replace h := h.2 hc
          refine lv_iload_n hx hb dX5_sum_307 rfl (lv_at hl 4 rfl) ?_
          refine lv_goto (tgt := 312) hx hb dX5_sum_308 (by decide) ?_
          refine lv_istore (lv' := [(7, .int x2), (6, .int r22), (5, .int a21), (0, .ref (g.1 5000)), (1, .int x1), (2, .int x2), (3, .int x3), (4, .int x4)]) hx hb dX5_sum_312 hl (by decide) rfl (fun ls hl => ?_)
          exact wX5_sum_314 hg X hr a21 r22 x2 _ h H locs ls hw hS (lv_sub hl [3, 4, 5, 6, 7, 2, 1, 0] rfl)
      · replace h := h.2 hc
        refine lv_aload_n hx hb dX5_sum_90 rfl (lv_at hl 1 rfl) ?_
        refine m_get (v := .ref (g.1 5002)) X hw qM rfl inA_X5 1 (by decide) mw_78 rfl dX5_sum_91 ?_
        refine lv_iload_n hx hb dX5_sum_94 rfl (lv_at hl 3 rfl) ?_
        obtain ⟨hi, h⟩ := h
        refine m_iald X hw qS 0 rfl hi dX5_sum_95 ?_
        refine lv_aload_n hx hb dX5_sum_96 rfl (lv_at hl 1 rfl) ?_
        refine m_get (v := .ref (g.1 5002)) X hw qM rfl inA_X5 1 (by decide) mw_78 rfl dX5_sum_97 ?_
        refine lv_iload_n hx hb dX5_sum_100 rfl (lv_at hl 4 rfl) ?_
        obtain ⟨hi, h⟩ := h
        refine m_iald X hw qS 0 rfl hi dX5_sum_101 ?_
        refine lv_icmp_le (tgt := 114) hx hb dX5_sum_102 (by decide) (fun hc => ?_) (fun hc => ?_)
        · replace h := h.1 hc
          refine lv_aload_n hx hb dX5_sum_114 rfl (lv_at hl 1 rfl) ?_
          refine m_get (v := .ref (g.1 5002)) X hw qM rfl inA_X5 1 (by decide) mw_78 rfl dX5_sum_115 ?_
          refine lv_iload_n hx hb dX5_sum_118 rfl (lv_at hl 4 rfl) ?_
          obtain ⟨hi, h⟩ := h
          refine m_iald X hw qS 0 rfl hi dX5_sum_119 ?_
          refine lv_topi (fun a24 ea24 => ?_)
          replace h := h a24 ea24
          refine lv_istore (lv' := [(6, .int a24), (5, .int a21), (0, .ref (g.1 5000)), (1, .int x1), (2, .int x2), (3, .int x3), (4, .int x4)]) hx hb dX5_sum_120 hl (by decide) rfl (fun ls hl => ?_)
          exact wX5_sum_122 hg X hr a24 _ h H locs ls hw hS (lv_sub hl [2, 3, 4, 5, 6, 0] rfl)
        · replace h := h.2 hc
          refine lv_aload_n hx hb dX5_sum_105 rfl (lv_at hl 1 rfl) ?_
          refine m_get (v := .ref (g.1 5002)) X hw qM rfl inA_X5 1 (by decide) mw_78 rfl dX5_sum_106 ?_
          refine lv_iload_n hx hb dX5_sum_109 rfl (lv_at hl 3 rfl) ?_
          obtain ⟨hi, h⟩ := h
          refine m_iald X hw qS 0 rfl hi dX5_sum_110 ?_
          refine lv_goto (tgt := 120) hx hb dX5_sum_111 (by decide) ?_
          refine lv_topi (fun a25 ea25 => ?_)
          replace h := h a25 ea25
          refine lv_istore (lv' := [(6, .int a25), (5, .int a21), (0, .ref (g.1 5000)), (1, .int x1), (2, .int x2), (3, .int x3), (4, .int x4)]) hx hb dX5_sum_120 hl (by decide) rfl (fun ls hl => ?_)
          exact wX5_sum_122 hg X hr a25 _ h H locs ls hw hS (lv_sub hl [2, 3, 4, 5, 6, 0] rfl)
    · replace h := h.2 hc
      exact wX5_sum_25 hg X hr a21 _ h H locs ls hw hS (lv_sub hl [1, 2, 3, 4, 5, 0] rfl)
def wpX5_sum (x1 : Int32) (x2 : Int32) (x3 : Int32) (x4 : Int32) (σ : RS) (Q : RS → Prop) : Prop := wpX5_sum_0 x1 x2 x3 x4 Q σ
theorem kX5_sum {l : Launch} {D : va_G} {A : Nat → Prop} {g : mG} (hg : inj g) {x1 : Int32} {x2 : Int32} {x3 : Int32} {x4 : Int32} {σ : RS} {Q : RS → Prop} (h : wpX5_sum x1 x2 x3 x4 σ Q) : Met l yX5_sum (Cond.code yX5_sum cX5_sum 17 none :: wsA) rmX5_sum (mPc D (tyG g) A (rT g σ) [.ref (g.1 5000), .int x1, .int x2, .int x3, .int x4]) (va_Qv Q (fun u t => wd D A (rT g u) t.heap) A) 0 0 A :=
  m_met (by decide +kernel) (Nat.le_of_ble_eq_true rfl) (fun p e s m below meth c X hr H locs ls hw hS hl => wX5_sum_0 hg X hr σ h H locs ls hw hS (lv_sub hl [0, 1, 2, 3, 4] rfl))
theorem fX5_sum : vfit yX5_sum cX5_sum 17 none 4 := ⟨mw_156, mw_157, mw_5, mw_158, by decide +kernel, by decide +kernel, by decide +kernel⟩
/-! BigPolysModel.times(III)V -/
def rmX5_times : Room := { frames := 1, cells := 0, slots := 0, locals := 21 }
def wbX5_times_80 (x1 : Int32) (x2 : Int32) (x3 : Int32) (Q : RS → Prop) (N48 : Int32 → Int32 → RS → Prop) (N80 : Int32 → Int32 → Int64 → Int64 → Int32 → RS → Prop) (i4 : Int32) (i5 : Int32) (l6 : Int64) (l8 : Int64) (i10 : Int32) (σ : RS) : Prop :=
  vp_in x3 227 ∧ (
  ((rS σ x3.toNatClampNeg) ≤ i10 →
    vp_in x3 227 ∧ (
    vp_in ((((440 : Int32) * x1) + i5) + (rS σ x3.toNatClampNeg)) 99880 ∧ (
    ∀ a1 : Int32, a1 = i5 + (1 : Int32) →
    N48 i4 a1 (wL σ ((((440 : Int32) * x1) + i5) + (rS σ x3.toNatClampNeg)) l6)))) ∧
  (¬ (rS σ x3.toNatClampNeg) ≤ i10 →
    vp_in ((((440 : Int32) * x1) + i5) + i10) 99880 ∧ (
    vp_in (((440 : Int32) * x3) + i10) 99880 ∧ (
    ∀ b2 : Int64, b2 = l6 + ((rL σ ((((440 : Int32) * x1) + i5) + i10).toNatClampNeg) + (l8 * (rL σ (((440 : Int32) * x3) + i10).toNatClampNeg))) →
    vp_in ((((440 : Int32) * x1) + i5) + i10) 99880 ∧ (
    ∀ b3 : Int64, b3 = jlshr b2 (28 : Int32) →
    ∀ a4 : Int32, a4 = i10 + (1 : Int32) →
    N80 i4 i5 b3 l8 a4 (wL σ ((((440 : Int32) * x1) + i5) + i10) (b2 &&& (268435455 : Int64))))))))
set_option maxRecDepth 100000 in
set_option maxHeartbeats 4000000 in
theorem wX5_times_80 {p : Program} {l : Launch} {e : Env} {s : State} {m : MethodId} {args : Array Value} {below : List Frame} {meth : Method} {c : Code} {D : va_G} {A : Nat → Prop} {g : mG} (hg : inj g) {x1 : Int32} {x2 : Int32} {x3 : Int32} (X : cx p m meth c s args cX5_times 11 RX5 D (tyG g)) (hr : meth.sig.returnType = none) {Q : RS → Prop} {N48 : Int32 → Int32 → RS → Prop} (hN48 : ∀ (i4 : Int32) (i5 : Int32) (σ : RS), N48 i4 i5 σ → cW p l e rmX5_times s m args below meth c (MQ below (va_Qv Q (fun u t => wd D A (rT g u) t.heap) A) args s 0 0 A) D A (rT g σ) 48 11 [(0, .ref (g.1 5000)), (1, .int x1), (2, .int x2), (3, .int x3), (4, .int i4), (5, .int i5)]) : ∀ (n : Nat) (i4 : Int32) (i5 : Int32) (l6 : Int64) (l8 : Int64) (i10 : Int32) (σ : RS), lq6 (wbX5_times_80 x1 x2 x3 Q N48) n i4 i5 l6 l8 i10 σ → cW p l e rmX5_times s m args below meth c (MQ below (va_Qv Q (fun u t => wd D A (rT g u) t.heap) A) args s 0 0 A) D A (rT g σ) 80 11 [(0, .ref (g.1 5000)), (1, .int x1), (2, .int x2), (3, .int x3), (4, .int i4), (5, .int i5), (6, .long l6), (8, .long l8), (10, .int i10)] := by
  obtain ⟨hx, hb, hml, hown, hts, hK, hlk⟩ := id X
  intro n
  induction n with
  | zero =>
    intro i4 i5 l6 l8 i10 σ h
    exact h.elim
  | succ n hN80 =>
    intro i4 i5 l6 l8 i10 σ h H locs ls hw hS hl
    replace h : wbX5_times_80 x1 x2 x3 Q N48 (lq6 (wbX5_times_80 x1 x2 x3 Q N48) n) i4 i5 l6 l8 i10 σ := h
    unfold wbX5_times_80 at h
    refine lv_iload hx hb dX5_times_80 (lv_at hl 8 rfl) ?_
    refine lv_aload_n hx hb dX5_times_82 rfl (lv_at hl 0 rfl) ?_
    refine m_get (v := .ref (g.1 5002)) X hw qM rfl inA_X5 1 (by decide) mw_78 rfl dX5_times_83 ?_
    refine lv_iload_n hx hb dX5_times_86 rfl (lv_at hl 3 rfl) ?_
    obtain ⟨hi, h⟩ := h
    refine m_iald X hw qS 0 rfl hi dX5_times_87 ?_
    refine lv_icmp_ge (tgt := 164) hx hb dX5_times_88 (by decide) (fun hc => ?_) (fun hc => ?_)
    · replace h := h.1 hc
      refine lv_aload_n hx hb dX5_times_164 rfl (lv_at hl 0 rfl) ?_
      refine m_get (v := .ref (g.1 5001)) X hw qM rfl inA_X5 0 (by decide) mw_77 rfl dX5_times_165 ?_
      refine lv_sipush (v := (440 : Int32)) hx hb dX5_times_168 (by decide) ?_
      refine lv_iload_n hx hb dX5_times_171 rfl (lv_at hl 1 rfl) ?_
      refine lv_imul hx hb dX5_times_172 ?_
      refine lv_iload hx hb dX5_times_173 (lv_at hl 5 rfl) ?_
      refine lv_iadd hx hb dX5_times_175 ?_
      refine lv_aload_n hx hb dX5_times_176 rfl (lv_at hl 0 rfl) ?_
      refine m_get (v := .ref (g.1 5002)) X hw qM rfl inA_X5 1 (by decide) mw_78 rfl dX5_times_177 ?_
      refine lv_iload_n hx hb dX5_times_180 rfl (lv_at hl 3 rfl) ?_
      obtain ⟨hi, h⟩ := h
      refine m_iald X hw qS 0 rfl hi dX5_times_181 ?_
      refine lv_iadd hx hb dX5_times_182 ?_
      refine lv_lload hx hb dX5_times_183 (lv_at hl 6 rfl) ?_
      obtain ⟨hi, h⟩ := h
      refine m_last (T' := rT g (wL σ ((((440 : Int32) * x1) + i5) + (rS σ x3.toNatClampNeg)) l6)) X hw hS qL 1 rfl hi (vL hg) dX5_times_185 (fun H locs hw hS => ?_)
      obtain ⟨a1, ea1⟩ : ∃ z : Int32, z = i5 + (1 : Int32) := ⟨_, rfl⟩
      replace h := h a1 ea1
      refine lv_iinc (v := a1) (lv' := [(5, .int a1), (0, .ref (g.1 5000)), (1, .int x1), (2, .int x2), (3, .int x3), (4, .int i4), (6, .long l6), (8, .long l8), (10, .int i10)]) hx hb dX5_times_186 hl (k := 5) rfl (by rw [ea1]; rfl) (by decide) rfl (fun ls hl => ?_)
      refine lv_goto (tgt := 48) hx hb dX5_times_189 (by decide) ?_
      exact hN48 i4 a1 _ h H locs ls hw hS (lv_sub hl [1, 2, 3, 4, 5, 0] rfl)
    · replace h := h.2 hc
      refine lv_lload hx hb dX5_times_91 (lv_at hl 6 rfl) ?_
      refine lv_aload_n hx hb dX5_times_93 rfl (lv_at hl 0 rfl) ?_
      refine m_get (v := .ref (g.1 5001)) X hw qM rfl inA_X5 0 (by decide) mw_77 rfl dX5_times_94 ?_
      refine lv_sipush (v := (440 : Int32)) hx hb dX5_times_97 (by decide) ?_
      refine lv_iload_n hx hb dX5_times_100 rfl (lv_at hl 1 rfl) ?_
      refine lv_imul hx hb dX5_times_101 ?_
      refine lv_iload hx hb dX5_times_102 (lv_at hl 5 rfl) ?_
      refine lv_iadd hx hb dX5_times_104 ?_
      refine lv_iload hx hb dX5_times_105 (lv_at hl 8 rfl) ?_
      refine lv_iadd hx hb dX5_times_107 ?_
      obtain ⟨hi, h⟩ := h
      refine m_lald X hw qL 1 rfl hi dX5_times_108 ?_
      refine lv_lload hx hb dX5_times_109 (lv_at hl 7 rfl) ?_
      refine lv_aload_n hx hb dX5_times_111 rfl (lv_at hl 0 rfl) ?_
      refine m_get (v := .ref (g.1 5001)) X hw qM rfl inA_X5 0 (by decide) mw_77 rfl dX5_times_112 ?_
      refine lv_sipush (v := (440 : Int32)) hx hb dX5_times_115 (by decide) ?_
      refine lv_iload_n hx hb dX5_times_118 rfl (lv_at hl 3 rfl) ?_
      refine lv_imul hx hb dX5_times_119 ?_
      refine lv_iload hx hb dX5_times_120 (lv_at hl 8 rfl) ?_
      refine lv_iadd hx hb dX5_times_122 ?_
      obtain ⟨hi, h⟩ := h
      refine m_lald X hw qL 1 rfl hi dX5_times_123 ?_
      refine lv_lmul hx hb dX5_times_124 ?_
      refine lv_ladd hx hb dX5_times_125 ?_
      refine lv_ladd hx hb dX5_times_126 ?_
      refine lv_topl (fun b2 eb2 => ?_)
      replace h := h b2 eb2
      refine lv_lstore (lv' := [(6, .long b2), (0, .ref (g.1 5000)), (1, .int x1), (2, .int x2), (3, .int x3), (4, .int i4), (5, .int i5), (8, .long l8), (10, .int i10)]) hx hb dX5_times_127 hl (by decide) rfl (fun ls hl => ?_)
      refine lv_aload_n hx hb dX5_times_129 rfl (lv_at hl 1 rfl) ?_
      refine m_get (v := .ref (g.1 5001)) X hw qM rfl inA_X5 0 (by decide) mw_77 rfl dX5_times_130 ?_
      refine lv_sipush (v := (440 : Int32)) hx hb dX5_times_133 (by decide) ?_
      refine lv_iload_n hx hb dX5_times_136 rfl (lv_at hl 2 rfl) ?_
      refine lv_imul hx hb dX5_times_137 ?_
      refine lv_iload hx hb dX5_times_138 (lv_at hl 6 rfl) ?_
      refine lv_iadd hx hb dX5_times_140 ?_
      refine lv_iload hx hb dX5_times_141 (lv_at hl 8 rfl) ?_
      refine lv_iadd hx hb dX5_times_143 ?_
      refine lv_lload hx hb dX5_times_144 (lv_at hl 0 rfl) ?_
      refine lv_ldc2 (v := (268435455 : Int64)) hx hb hown (hts _ mw_146) dX5_times_146 ?_
      refine lv_land hx hb dX5_times_149 ?_
      obtain ⟨hi, h⟩ := h
      refine m_last (T' := rT g (wL σ ((((440 : Int32) * x1) + i5) + i10) (b2 &&& (268435455 : Int64)))) X hw hS qL 1 rfl hi (vL hg) dX5_times_150 (fun H locs hw hS => ?_)
      refine lv_lload hx hb dX5_times_151 (lv_at hl 0 rfl) ?_
      refine lv_bipush (v := (28 : Int32)) hx hb dX5_times_153 (by decide) ?_
      refine lv_lshr (v := jlshr b2 (28 : Int32)) hx hb dX5_times_155 rfl ?_
      refine lv_topl (fun b3 eb3 => ?_)
      replace h := h b3 eb3
      refine lv_lstore (lv' := [(6, .long b3), (0, .ref (g.1 5000)), (1, .int x1), (2, .int x2), (3, .int x3), (4, .int i4), (5, .int i5), (8, .long l8), (10, .int i10)]) hx hb dX5_times_156 hl (by decide) rfl (fun ls hl => ?_)
      obtain ⟨a4, ea4⟩ : ∃ z : Int32, z = i10 + (1 : Int32) := ⟨_, rfl⟩
      replace h := h a4 ea4
      refine lv_iinc (v := a4) (lv' := [(10, .int a4), (6, .long b3), (0, .ref (g.1 5000)), (1, .int x1), (2, .int x2), (3, .int x3), (4, .int i4), (5, .int i5), (8, .long l8)]) hx hb dX5_times_158 hl (k := 8) rfl (by rw [ea4]; rfl) (by decide) rfl (fun ls hl => ?_)
      refine lv_goto (tgt := 80) hx hb dX5_times_161 (by decide) ?_
      exact hN80 i4 i5 b3 l8 a4 _ h H locs ls hw hS (lv_sub hl [2, 3, 4, 5, 6, 7, 1, 8, 0] rfl)
def wbX5_times_48 (x1 : Int32) (x2 : Int32) (x3 : Int32) (Q : RS → Prop) (N48 : Int32 → Int32 → RS → Prop) (i4 : Int32) (i5 : Int32) (σ : RS) : Prop :=
  vp_in x2 227 ∧ (
  ((rS σ x2.toNatClampNeg) ≤ i5 →
    vp_in x1 227 ∧ (
    vp_in x2 227 ∧ (
    vp_in x3 227 ∧ (
    vp_in x1 227 ∧ (
    wpX5_trim x1 (wG (wS σ x1 i4) x1 ((rG (wS σ x1 i4) x2.toNatClampNeg) * (rG (wS σ x1 i4) x3.toNatClampNeg))) (fun (σ6 : RS) =>
      Q σ6)))))) ∧
  (¬ (rS σ x2.toNatClampNeg) ≤ i5 →
    vp_in (((440 : Int32) * x2) + i5) 99880 ∧ (
    ∀ b7 : Int64, b7 = rL σ (((440 : Int32) * x2) + i5).toNatClampNeg →
    ∃ n, lq6 (wbX5_times_80 x1 x2 x3 Q N48) n i4 i5 (0 : Int64) b7 (0 : Int32) σ)))
set_option maxRecDepth 100000 in
set_option maxHeartbeats 4000000 in
theorem wX5_times_48 {p : Program} {l : Launch} {e : Env} {s : State} {m : MethodId} {args : Array Value} {below : List Frame} {meth : Method} {c : Code} {D : va_G} {A : Nat → Prop} {g : mG} (hg : inj g) {x1 : Int32} {x2 : Int32} {x3 : Int32} (X : cx p m meth c s args cX5_times 11 RX5 D (tyG g)) (hr : meth.sig.returnType = none) {Q : RS → Prop} : ∀ (n : Nat) (i4 : Int32) (i5 : Int32) (σ : RS), lq3 (wbX5_times_48 x1 x2 x3 Q) n i4 i5 σ → cW p l e rmX5_times s m args below meth c (MQ below (va_Qv Q (fun u t => wd D A (rT g u) t.heap) A) args s 0 0 A) D A (rT g σ) 48 11 [(0, .ref (g.1 5000)), (1, .int x1), (2, .int x2), (3, .int x3), (4, .int i4), (5, .int i5)] := by
  obtain ⟨hx, hb, hml, hown, hts, hK, hlk⟩ := id X
  intro n
  induction n with
  | zero =>
    intro i4 i5 σ h
    exact h.elim
  | succ n hN48 =>
    intro i4 i5 σ h H locs ls hw hS hl
    replace h : wbX5_times_48 x1 x2 x3 Q (lq3 (wbX5_times_48 x1 x2 x3 Q) n) i4 i5 σ := h
    unfold wbX5_times_48 at h
    refine lv_iload hx hb dX5_times_48 (lv_at hl 5 rfl) ?_
    refine lv_aload_n hx hb dX5_times_50 rfl (lv_at hl 0 rfl) ?_
    refine m_get (v := .ref (g.1 5002)) X hw qM rfl inA_X5 1 (by decide) mw_78 rfl dX5_times_51 ?_
    refine lv_iload_n hx hb dX5_times_54 rfl (lv_at hl 2 rfl) ?_
    obtain ⟨hi, h⟩ := h
    refine m_iald X hw qS 0 rfl hi dX5_times_55 ?_
    refine lv_icmp_ge (tgt := 192) hx hb dX5_times_56 (by decide) (fun hc => ?_) (fun hc => ?_)
    · replace h := h.1 hc
      refine lv_aload_n hx hb dX5_times_192 rfl (lv_at hl 0 rfl) ?_
      refine m_get (v := .ref (g.1 5002)) X hw qM rfl inA_X5 1 (by decide) mw_78 rfl dX5_times_193 ?_
      refine lv_iload_n hx hb dX5_times_196 rfl (lv_at hl 1 rfl) ?_
      refine lv_iload hx hb dX5_times_197 (lv_at hl 4 rfl) ?_
      obtain ⟨hi, h⟩ := h
      refine m_iast (T' := rT g (wS σ x1 i4)) X hw hS qS 0 rfl hi (vS hg) dX5_times_199 (fun H locs hw hS => ?_)
      refine lv_aload_n hx hb dX5_times_200 rfl (lv_at hl 0 rfl) ?_
      refine m_get (v := .ref (g.1 5003)) X hw qM rfl inA_X5 2 (by decide) mw_79 rfl dX5_times_201 ?_
      refine lv_iload_n hx hb dX5_times_204 rfl (lv_at hl 1 rfl) ?_
      refine lv_aload_n hx hb dX5_times_205 rfl (lv_at hl 0 rfl) ?_
      refine m_get (v := .ref (g.1 5003)) X hw qM rfl inA_X5 2 (by decide) mw_79 rfl dX5_times_206 ?_
      refine lv_iload_n hx hb dX5_times_209 rfl (lv_at hl 2 rfl) ?_
      obtain ⟨hi, h⟩ := h
      refine m_iald X hw qG 0 rfl hi dX5_times_210 ?_
      refine lv_aload_n hx hb dX5_times_211 rfl (lv_at hl 0 rfl) ?_
      refine m_get (v := .ref (g.1 5003)) X hw qM rfl inA_X5 2 (by decide) mw_79 rfl dX5_times_212 ?_
      refine lv_iload_n hx hb dX5_times_215 rfl (lv_at hl 3 rfl) ?_
      obtain ⟨hi, h⟩ := h
      refine m_iald X hw qG 0 rfl hi dX5_times_216 ?_
      refine lv_imul hx hb dX5_times_217 ?_
      obtain ⟨hi, h⟩ := h
      refine m_iast (T' := rT g (wG (wS σ x1 i4) x1 ((rG (wS σ x1 i4) x2.toNatClampNeg) * (rG (wS σ x1 i4) x3.toNatClampNeg)))) X hw hS qG 0 rfl hi (vG hg) dX5_times_218 (fun H locs hw hS => ?_)
      refine lv_aload_n hx hb dX5_times_219 rfl (lv_at hl 0 rfl) ?_
      refine lv_iload_n hx hb dX5_times_220 rfl (lv_at hl 1 rfl) ?_
      refine m_cVv (TT := rT g) (As := [.int x1]) (rest := []) X hl.1 hw hS (kX5_trim hg h) mw_147 fX5_trim qM rfl rfl ⟨rfl, rfl, Nat.le_of_ble_eq_true rfl, Nat.le_of_ble_eq_true rfl⟩ rfl rfl (Nat.le_of_ble_eq_true rfl) dX5_times_221 (fun σ6 H locs h hw hS => ?_)
      exact m_vret X hr hw hS h dX5_times_224
    · replace h := h.2 hc
      refine lv_lconst (v := (0 : Int64)) hx hb dX5_times_59 (by decide) ?_
      refine lv_lstore (lv' := [(6, .long (0 : Int64)), (0, .ref (g.1 5000)), (1, .int x1), (2, .int x2), (3, .int x3), (4, .int i4), (5, .int i5)]) hx hb dX5_times_60 hl (by decide) rfl (fun ls hl => ?_)
      refine lv_aload_n hx hb dX5_times_62 rfl (lv_at hl 1 rfl) ?_
      refine m_get (v := .ref (g.1 5001)) X hw qM rfl inA_X5 0 (by decide) mw_77 rfl dX5_times_63 ?_
      refine lv_sipush (v := (440 : Int32)) hx hb dX5_times_66 (by decide) ?_
      refine lv_iload_n hx hb dX5_times_69 rfl (lv_at hl 3 rfl) ?_
      refine lv_imul hx hb dX5_times_70 ?_
      refine lv_iload hx hb dX5_times_71 (lv_at hl 6 rfl) ?_
      refine lv_iadd hx hb dX5_times_73 ?_
      obtain ⟨hi, h⟩ := h
      refine m_lald X hw qL 1 rfl hi dX5_times_74 ?_
      refine lv_topl (fun b7 eb7 => ?_)
      replace h := h b7 eb7
      refine lv_lstore (lv' := [(8, .long b7), (6, .long (0 : Int64)), (0, .ref (g.1 5000)), (1, .int x1), (2, .int x2), (3, .int x3), (4, .int i4), (5, .int i5)]) hx hb dX5_times_75 hl (by decide) rfl (fun ls hl => ?_)
      refine lv_iconst (v := (0 : Int32)) hx hb dX5_times_77 (by decide) ?_
      refine lv_istore (lv' := [(10, .int (0 : Int32)), (8, .long b7), (6, .long (0 : Int64)), (0, .ref (g.1 5000)), (1, .int x1), (2, .int x2), (3, .int x3), (4, .int i4), (5, .int i5)]) hx hb dX5_times_78 hl (by decide) rfl (fun ls hl => ?_)
      obtain ⟨n9, h⟩ := h
      exact wX5_times_80 hg X hr hN48 n9 i4 i5 (0 : Int64) b7 (0 : Int32) _ h H locs ls hw hS (lv_sub hl [3, 4, 5, 6, 7, 8, 2, 1, 0] rfl)
def wbX5_times_18 (x1 : Int32) (x2 : Int32) (x3 : Int32) (Q : RS → Prop) (N18 : Int32 → Int32 → RS → Prop) (i4 : Int32) (i5 : Int32) (σ : RS) : Prop :=
  (i4 ≤ i5 →
    ∃ n, lq3 (wbX5_times_48 x1 x2 x3 Q) n i4 (0 : Int32) σ) ∧
  (¬ i4 ≤ i5 →
    vp_in (((440 : Int32) * x1) + i5) 99880 ∧ (
    ∀ a8 : Int32, a8 = i5 + (1 : Int32) →
    N18 i4 a8 (wL σ (((440 : Int32) * x1) + i5) (0 : Int64))))
set_option maxRecDepth 100000 in
set_option maxHeartbeats 4000000 in
theorem wX5_times_18 {p : Program} {l : Launch} {e : Env} {s : State} {m : MethodId} {args : Array Value} {below : List Frame} {meth : Method} {c : Code} {D : va_G} {A : Nat → Prop} {g : mG} (hg : inj g) {x1 : Int32} {x2 : Int32} {x3 : Int32} (X : cx p m meth c s args cX5_times 11 RX5 D (tyG g)) (hr : meth.sig.returnType = none) {Q : RS → Prop} : ∀ (n : Nat) (i4 : Int32) (i5 : Int32) (σ : RS), lq3 (wbX5_times_18 x1 x2 x3 Q) n i4 i5 σ → cW p l e rmX5_times s m args below meth c (MQ below (va_Qv Q (fun u t => wd D A (rT g u) t.heap) A) args s 0 0 A) D A (rT g σ) 18 11 [(0, .ref (g.1 5000)), (1, .int x1), (2, .int x2), (3, .int x3), (4, .int i4), (5, .int i5)] := by
  obtain ⟨hx, hb, hml, hown, hts, hK, hlk⟩ := id X
  intro n
  induction n with
  | zero =>
    intro i4 i5 σ h
    exact h.elim
  | succ n hN18 =>
    intro i4 i5 σ h H locs ls hw hS hl
    replace h : wbX5_times_18 x1 x2 x3 Q (lq3 (wbX5_times_18 x1 x2 x3 Q) n) i4 i5 σ := h
    unfold wbX5_times_18 at h
    refine lv_iload hx hb dX5_times_18 (lv_at hl 5 rfl) ?_
    refine lv_iload hx hb dX5_times_20 (lv_at hl 4 rfl) ?_
    refine lv_icmp_ge (tgt := 45) hx hb dX5_times_22 (by decide) (fun hc => ?_) (fun hc => ?_)
    · replace h := h.1 hc
      refine lv_iconst (v := (0 : Int32)) hx hb dX5_times_45 (by decide) ?_
      refine lv_istore (lv' := [(5, .int (0 : Int32)), (0, .ref (g.1 5000)), (1, .int x1), (2, .int x2), (3, .int x3), (4, .int i4)]) hx hb dX5_times_46 hl (by decide) rfl (fun ls hl => ?_)
      obtain ⟨n9, h⟩ := h
      exact wX5_times_48 hg X hr n9 i4 (0 : Int32) _ h H locs ls hw hS (lv_sub hl [1, 2, 3, 4, 5, 0] rfl)
    · replace h := h.2 hc
      refine lv_aload_n hx hb dX5_times_25 rfl (lv_at hl 0 rfl) ?_
      refine m_get (v := .ref (g.1 5001)) X hw qM rfl inA_X5 0 (by decide) mw_77 rfl dX5_times_26 ?_
      refine lv_sipush (v := (440 : Int32)) hx hb dX5_times_29 (by decide) ?_
      refine lv_iload_n hx hb dX5_times_32 rfl (lv_at hl 1 rfl) ?_
      refine lv_imul hx hb dX5_times_33 ?_
      refine lv_iload hx hb dX5_times_34 (lv_at hl 5 rfl) ?_
      refine lv_iadd hx hb dX5_times_36 ?_
      refine lv_lconst (v := (0 : Int64)) hx hb dX5_times_37 (by decide) ?_
      obtain ⟨hi, h⟩ := h
      refine m_last (T' := rT g (wL σ (((440 : Int32) * x1) + i5) (0 : Int64))) X hw hS qL 1 rfl hi (vL hg) dX5_times_38 (fun H locs hw hS => ?_)
      obtain ⟨a8, ea8⟩ : ∃ z : Int32, z = i5 + (1 : Int32) := ⟨_, rfl⟩
      replace h := h a8 ea8
      refine lv_iinc (v := a8) (lv' := [(5, .int a8), (0, .ref (g.1 5000)), (1, .int x1), (2, .int x2), (3, .int x3), (4, .int i4)]) hx hb dX5_times_39 hl (k := 5) rfl (by rw [ea8]; rfl) (by decide) rfl (fun ls hl => ?_)
      refine lv_goto (tgt := 18) hx hb dX5_times_42 (by decide) ?_
      exact hN18 i4 a8 _ h H locs ls hw hS (lv_sub hl [1, 2, 3, 4, 5, 0] rfl)
def wpX5_times_0 (x1 : Int32) (x2 : Int32) (x3 : Int32) (Q : RS → Prop) (σ : RS) : Prop :=
  vp_in x2 227 ∧ (
  vp_in x3 227 ∧ (
  ∀ a9 : Int32, a9 = (rS σ x2.toNatClampNeg) + (rS σ x3.toNatClampNeg) →
  ∃ n, lq3 (wbX5_times_18 x1 x2 x3 Q) n a9 (0 : Int32) σ))
set_option maxRecDepth 100000 in
set_option maxHeartbeats 4000000 in
theorem wX5_times_0 {p : Program} {l : Launch} {e : Env} {s : State} {m : MethodId} {args : Array Value} {below : List Frame} {meth : Method} {c : Code} {D : va_G} {A : Nat → Prop} {g : mG} (hg : inj g) {x1 : Int32} {x2 : Int32} {x3 : Int32} (X : cx p m meth c s args cX5_times 11 RX5 D (tyG g)) (hr : meth.sig.returnType = none) {Q : RS → Prop} : ∀ (σ : RS), wpX5_times_0 x1 x2 x3 Q σ → cW p l e rmX5_times s m args below meth c (MQ below (va_Qv Q (fun u t => wd D A (rT g u) t.heap) A) args s 0 0 A) D A (rT g σ) 0 11 [(0, .ref (g.1 5000)), (1, .int x1), (2, .int x2), (3, .int x3)] := by
  obtain ⟨hx, hb, hml, hown, hts, hK, hlk⟩ := id X
  intro σ h H locs ls hw hS hl
  unfold wpX5_times_0 at h
  refine lv_aload_n hx hb dX5_times_0 rfl (lv_at hl 0 rfl) ?_
  refine m_get (v := .ref (g.1 5002)) X hw qM rfl inA_X5 1 (by decide) mw_78 rfl dX5_times_1 ?_
  refine lv_iload_n hx hb dX5_times_4 rfl (lv_at hl 2 rfl) ?_
  obtain ⟨hi, h⟩ := h
  refine m_iald X hw qS 0 rfl hi dX5_times_5 ?_
  refine lv_aload_n hx hb dX5_times_6 rfl (lv_at hl 0 rfl) ?_
  refine m_get (v := .ref (g.1 5002)) X hw qM rfl inA_X5 1 (by decide) mw_78 rfl dX5_times_7 ?_
  refine lv_iload_n hx hb dX5_times_10 rfl (lv_at hl 3 rfl) ?_
  obtain ⟨hi, h⟩ := h
  refine m_iald X hw qS 0 rfl hi dX5_times_11 ?_
  refine lv_iadd hx hb dX5_times_12 ?_
  refine lv_topi (fun a9 ea9 => ?_)
  replace h := h a9 ea9
  refine lv_istore (lv' := [(4, .int a9), (0, .ref (g.1 5000)), (1, .int x1), (2, .int x2), (3, .int x3)]) hx hb dX5_times_13 hl (by decide) rfl (fun ls hl => ?_)
  refine lv_iconst (v := (0 : Int32)) hx hb dX5_times_15 (by decide) ?_
  refine lv_istore (lv' := [(5, .int (0 : Int32)), (4, .int a9), (0, .ref (g.1 5000)), (1, .int x1), (2, .int x2), (3, .int x3)]) hx hb dX5_times_16 hl (by decide) rfl (fun ls hl => ?_)
  obtain ⟨n9, h⟩ := h
  exact wX5_times_18 hg X hr n9 a9 (0 : Int32) _ h H locs ls hw hS (lv_sub hl [2, 3, 4, 5, 1, 0] rfl)
def wpX5_times (x1 : Int32) (x2 : Int32) (x3 : Int32) (σ : RS) (Q : RS → Prop) : Prop := wpX5_times_0 x1 x2 x3 Q σ
theorem kX5_times {l : Launch} {D : va_G} {A : Nat → Prop} {g : mG} (hg : inj g) {x1 : Int32} {x2 : Int32} {x3 : Int32} {σ : RS} {Q : RS → Prop} (h : wpX5_times x1 x2 x3 σ Q) : Met l yX5_times (Cond.code yX5_times cX5_times 11 none :: wsA) rmX5_times (mPc D (tyG g) A (rT g σ) [.ref (g.1 5000), .int x1, .int x2, .int x3]) (va_Qv Q (fun u t => wd D A (rT g u) t.heap) A) 0 0 A :=
  m_met (by decide +kernel) (Nat.le_of_ble_eq_true rfl) (fun p e s m below meth c X hr H locs ls hw hS hl => wX5_times_0 hg X hr σ h H locs ls hw hS (lv_sub hl [0, 1, 2, 3] rfl))
theorem fX5_times : vfit yX5_times cX5_times 11 none 3 := ⟨mw_276, mw_277, mw_5, mw_278, by decide +kernel, by decide +kernel, by decide +kernel⟩
/-! BigPolysModel.bitsOf(I)I -/
def rmX5_bitsOf : Room := { frames := 0, cells := 0, slots := 0, locals := 0 }
def wbX5_bitsOf_43 (x1 : Int32) (Q : Int32 → RS → Prop) (N43 : Int32 → Int64 → RS → Prop) (i2 : Int32) (l3 : Int64) (σ : RS) : Prop :=
  ((lg_cmp l3 (0 : Int64)) ≤ 0 →
    Q i2 σ) ∧
  (¬ (lg_cmp l3 (0 : Int64)) ≤ 0 →
    ∀ a1 : Int32, a1 = i2 + (1 : Int32) →
    ∀ b2 : Int64, b2 = jlshr l3 (1 : Int32) →
    N43 a1 b2 σ)
set_option maxRecDepth 100000 in
set_option maxHeartbeats 4000000 in
theorem wX5_bitsOf_43 {p : Program} {l : Launch} {e : Env} {s : State} {m : MethodId} {args : Array Value} {below : List Frame} {meth : Method} {c : Code} {D : va_G} {A : Nat → Prop} {g : mG} (hg : inj g) {x1 : Int32} (X : cx p m meth c s args cX5_bitsOf 5 RX5 D (tyG g)) (hr : meth.sig.returnType = (some .int)) {Q : Int32 → RS → Prop} : ∀ (n : Nat) (i2 : Int32) (l3 : Int64) (σ : RS), lq3 (wbX5_bitsOf_43 x1 Q) n i2 l3 σ → cW p l e rmX5_bitsOf s m args below meth c (MQ below (va_Qi Q (fun u t => wd D A (rT g u) t.heap) A) args s 0 0 A) D A (rT g σ) 43 5 [(0, .ref (g.1 5000)), (1, .int x1), (2, .int i2), (3, .long l3)] := by
  obtain ⟨hx, hb, hml, hown, hts, hK, hlk⟩ := id X
  intro n
  induction n with
  | zero =>
    intro i2 l3 σ h
    exact h.elim
  | succ n hN43 =>
    intro i2 l3 σ h H locs ls hw hS hl
    replace h : wbX5_bitsOf_43 x1 Q (lq3 (wbX5_bitsOf_43 x1 Q) n) i2 l3 σ := h
    unfold wbX5_bitsOf_43 at h
    refine lv_lload_n hx hb dX5_bitsOf_43 rfl (lv_at hl 3 rfl) ?_
    refine lv_lconst (v := (0 : Int64)) hx hb dX5_bitsOf_44 (by decide) ?_
    refine W.lcmp hx hb dX5_bitsOf_45 ?_
    refine lv_if_le (tgt := 59) hx hb dX5_bitsOf_46 (by decide) (fun hc => ?_) (fun hc => ?_)
    · replace h := h.1 hc
      refine lv_iload_n hx hb dX5_bitsOf_59 rfl (lv_at hl 2 rfl) ?_
      exact m_iret X hr hw hS h dX5_bitsOf_60
    · replace h := h.2 hc
      obtain ⟨a1, ea1⟩ : ∃ z : Int32, z = i2 + (1 : Int32) := ⟨_, rfl⟩
      replace h := h a1 ea1
      refine lv_iinc (v := a1) (lv' := [(2, .int a1), (0, .ref (g.1 5000)), (1, .int x1), (3, .long l3)]) hx hb dX5_bitsOf_49 hl (k := 2) rfl (by rw [ea1]; rfl) (by decide) rfl (fun ls hl => ?_)
      refine lv_lload_n hx hb dX5_bitsOf_52 rfl (lv_at hl 3 rfl) ?_
      refine lv_iconst (v := (1 : Int32)) hx hb dX5_bitsOf_53 (by decide) ?_
      refine lv_lshr (v := jlshr l3 (1 : Int32)) hx hb dX5_bitsOf_54 rfl ?_
      refine lv_topl (fun b2 eb2 => ?_)
      replace h := h b2 eb2
      refine lv_lstore_n (lv' := [(3, .long b2), (2, .int a1), (0, .ref (g.1 5000)), (1, .int x1)]) hx hb dX5_bitsOf_55 rfl hl (by decide) rfl (fun ls hl => ?_)
      refine lv_goto (tgt := 43) hx hb dX5_bitsOf_56 (by decide) ?_
      exact hN43 a1 b2 _ h H locs ls hw hS (lv_sub hl [2, 3, 1, 0] rfl)
def wpX5_bitsOf_0 (x1 : Int32) (Q : Int32 → RS → Prop) (σ : RS) : Prop :=
  vp_in x1 227 ∧ (
  (¬ (rS σ x1.toNatClampNeg) = 0 →
    vp_in x1 227 ∧ (
    ∀ a3 : Int32, a3 = (28 : Int32) * ((rS σ x1.toNatClampNeg) - (1 : Int32)) →
    vp_in x1 227 ∧ (
    vp_in ((((440 : Int32) * x1) + (rS σ x1.toNatClampNeg)) - (1 : Int32)) 99880 ∧ (
    ∀ b4 : Int64, b4 = rL σ ((((440 : Int32) * x1) + (rS σ x1.toNatClampNeg)) - (1 : Int32)).toNatClampNeg →
    ∃ n, lq3 (wbX5_bitsOf_43 x1 Q) n a3 b4 σ)))) ∧
  ((rS σ x1.toNatClampNeg) = 0 →
    Q (0 : Int32) σ))
set_option maxRecDepth 100000 in
set_option maxHeartbeats 4000000 in
theorem wX5_bitsOf_0 {p : Program} {l : Launch} {e : Env} {s : State} {m : MethodId} {args : Array Value} {below : List Frame} {meth : Method} {c : Code} {D : va_G} {A : Nat → Prop} {g : mG} (hg : inj g) {x1 : Int32} (X : cx p m meth c s args cX5_bitsOf 5 RX5 D (tyG g)) (hr : meth.sig.returnType = (some .int)) {Q : Int32 → RS → Prop} : ∀ (σ : RS), wpX5_bitsOf_0 x1 Q σ → cW p l e rmX5_bitsOf s m args below meth c (MQ below (va_Qi Q (fun u t => wd D A (rT g u) t.heap) A) args s 0 0 A) D A (rT g σ) 0 5 [(0, .ref (g.1 5000)), (1, .int x1)] := by
  obtain ⟨hx, hb, hml, hown, hts, hK, hlk⟩ := id X
  intro σ h H locs ls hw hS hl
  unfold wpX5_bitsOf_0 at h
  refine lv_aload_n hx hb dX5_bitsOf_0 rfl (lv_at hl 0 rfl) ?_
  refine m_get (v := .ref (g.1 5002)) X hw qM rfl inA_X5 1 (by decide) mw_78 rfl dX5_bitsOf_1 ?_
  refine lv_iload_n hx hb dX5_bitsOf_4 rfl (lv_at hl 1 rfl) ?_
  obtain ⟨hi, h⟩ := h
  refine m_iald X hw qS 0 rfl hi dX5_bitsOf_5 ?_
  refine lv_if_ne (tgt := 11) hx hb dX5_bitsOf_6 (by decide) (fun hc => ?_) (fun hc => ?_)
  · replace h := h.1 hc
    refine lv_bipush (v := (28 : Int32)) hx hb dX5_bitsOf_11 (by decide) ?_
    refine lv_aload_n hx hb dX5_bitsOf_13 rfl (lv_at hl 0 rfl) ?_
    refine m_get (v := .ref (g.1 5002)) X hw qM rfl inA_X5 1 (by decide) mw_78 rfl dX5_bitsOf_14 ?_
    refine lv_iload_n hx hb dX5_bitsOf_17 rfl (lv_at hl 1 rfl) ?_
    obtain ⟨hi, h⟩ := h
    refine m_iald X hw qS 0 rfl hi dX5_bitsOf_18 ?_
    refine lv_iconst (v := (1 : Int32)) hx hb dX5_bitsOf_19 (by decide) ?_
    refine lv_isub hx hb dX5_bitsOf_20 ?_
    refine lv_imul hx hb dX5_bitsOf_21 ?_
    refine lv_topi (fun a3 ea3 => ?_)
    replace h := h a3 ea3
    refine lv_istore_n (lv' := [(2, .int a3), (0, .ref (g.1 5000)), (1, .int x1)]) hx hb dX5_bitsOf_22 rfl hl (by decide) rfl (fun ls hl => ?_)
    refine lv_aload_n hx hb dX5_bitsOf_23 rfl (lv_at hl 1 rfl) ?_
    refine m_get (v := .ref (g.1 5001)) X hw qM rfl inA_X5 0 (by decide) mw_77 rfl dX5_bitsOf_24 ?_
    refine lv_sipush (v := (440 : Int32)) hx hb dX5_bitsOf_27 (by decide) ?_
    refine lv_iload_n hx hb dX5_bitsOf_30 rfl (lv_at hl 2 rfl) ?_
    refine lv_imul hx hb dX5_bitsOf_31 ?_
    refine lv_aload_n hx hb dX5_bitsOf_32 rfl (lv_at hl 1 rfl) ?_
    refine m_get (v := .ref (g.1 5002)) X hw qM rfl inA_X5 1 (by decide) mw_78 rfl dX5_bitsOf_33 ?_
    refine lv_iload_n hx hb dX5_bitsOf_36 rfl (lv_at hl 2 rfl) ?_
    obtain ⟨hi, h⟩ := h
    refine m_iald X hw qS 0 rfl hi dX5_bitsOf_37 ?_
    refine lv_iadd hx hb dX5_bitsOf_38 ?_
    refine lv_iconst (v := (1 : Int32)) hx hb dX5_bitsOf_39 (by decide) ?_
    refine lv_isub hx hb dX5_bitsOf_40 ?_
    obtain ⟨hi, h⟩ := h
    refine m_lald X hw qL 1 rfl hi dX5_bitsOf_41 ?_
    refine lv_topl (fun b4 eb4 => ?_)
    replace h := h b4 eb4
    refine lv_lstore_n (lv' := [(3, .long b4), (2, .int a3), (0, .ref (g.1 5000)), (1, .int x1)]) hx hb dX5_bitsOf_42 rfl hl (by decide) rfl (fun ls hl => ?_)
    obtain ⟨n9, h⟩ := h
    exact wX5_bitsOf_43 hg X hr n9 a3 b4 _ h H locs ls hw hS (lv_sub hl [2, 3, 1, 0] rfl)
  · replace h := h.2 hc
    refine lv_iconst (v := (0 : Int32)) hx hb dX5_bitsOf_9 (by decide) ?_
    exact m_iret X hr hw hS h dX5_bitsOf_10
def wpX5_bitsOf (x1 : Int32) (σ : RS) (Q : Int32 → RS → Prop) : Prop := wpX5_bitsOf_0 x1 Q σ
theorem kX5_bitsOf {l : Launch} {D : va_G} {A : Nat → Prop} {g : mG} (hg : inj g) {x1 : Int32} {σ : RS} {Q : Int32 → RS → Prop} (h : wpX5_bitsOf x1 σ Q) : Met l yX5_bitsOf (Cond.code yX5_bitsOf cX5_bitsOf 5 (some .int) :: wsA) rmX5_bitsOf (mPc D (tyG g) A (rT g σ) [.ref (g.1 5000), .int x1]) (va_Qi Q (fun u t => wd D A (rT g u) t.heap) A) 0 0 A :=
  m_met (by decide +kernel) (Nat.le_of_ble_eq_true rfl) (fun p e s m below meth c X hr H locs ls hw hS hl => wX5_bitsOf_0 hg X hr σ h H locs ls hw hS (lv_sub hl [0, 1] rfl))
theorem fX5_bitsOf : vfit yX5_bitsOf cX5_bitsOf 5 (some .int) 1 := ⟨mw_236, mw_237, mw_5, mw_238, by decide +kernel, by decide +kernel, by decide +kernel⟩
/-! BigPolysModel.shiftUp(II)V -/
def rmX5_shiftUp : Room := { frames := 1, cells := 0, slots := 0, locals := 21 }
def wbX5_shiftUp_147 (x1 : Int32) (x2 : Int32) (Q : RS → Prop) (N147 : Int32 → Int32 → Int32 → RS → Prop) (i3 : Int32) (i5 : Int32) (i6 : Int32) (σ : RS) : Prop :=
  (i3 ≤ i6 →
    vp_in x1 227 ∧ (
    wpX5_trim x1 (wS σ x1 ((i5 + i3) + (1 : Int32))) (fun (σ2 : RS) =>
      Q σ2))) ∧
  (¬ i3 ≤ i6 →
    vp_in (((440 : Int32) * x1) + i6) 99880 ∧ (
    ∀ a3 : Int32, a3 = i6 + (1 : Int32) →
    N147 i3 i5 a3 (wL σ (((440 : Int32) * x1) + i6) (0 : Int64))))
set_option maxRecDepth 100000 in
set_option maxHeartbeats 4000000 in
theorem wX5_shiftUp_147 {p : Program} {l : Launch} {e : Env} {s : State} {m : MethodId} {args : Array Value} {below : List Frame} {meth : Method} {c : Code} {D : va_G} {A : Nat → Prop} {g : mG} (hg : inj g) {x1 : Int32} {x2 : Int32} (X : cx p m meth c s args cX5_shiftUp 9 RX5 D (tyG g)) (hr : meth.sig.returnType = none) {Q : RS → Prop} : ∀ (n : Nat) (i3 : Int32) (i5 : Int32) (i6 : Int32) (σ : RS), lq4 (wbX5_shiftUp_147 x1 x2 Q) n i3 i5 i6 σ → cW p l e rmX5_shiftUp s m args below meth c (MQ below (va_Qv Q (fun u t => wd D A (rT g u) t.heap) A) args s 0 0 A) D A (rT g σ) 147 9 [(0, .ref (g.1 5000)), (1, .int x1), (2, .int x2), (3, .int i3), (5, .int i5), (6, .int i6)] := by
  obtain ⟨hx, hb, hml, hown, hts, hK, hlk⟩ := id X
  intro n
  induction n with
  | zero =>
    intro i3 i5 i6 σ h
    exact h.elim
  | succ n hN147 =>
    intro i3 i5 i6 σ h H locs ls hw hS hl
    replace h : wbX5_shiftUp_147 x1 x2 Q (lq4 (wbX5_shiftUp_147 x1 x2 Q) n) i3 i5 i6 σ := h
    unfold wbX5_shiftUp_147 at h
    refine lv_iload hx hb dX5_shiftUp_147 (lv_at hl 5 rfl) ?_
    refine lv_iload_n hx hb dX5_shiftUp_149 rfl (lv_at hl 3 rfl) ?_
    refine lv_icmp_ge (tgt := 173) hx hb dX5_shiftUp_150 (by decide) (fun hc => ?_) (fun hc => ?_)
    · replace h := h.1 hc
      refine lv_aload_n hx hb dX5_shiftUp_173 rfl (lv_at hl 0 rfl) ?_
      refine m_get (v := .ref (g.1 5002)) X hw qM rfl inA_X5 1 (by decide) mw_78 rfl dX5_shiftUp_174 ?_
      refine lv_iload_n hx hb dX5_shiftUp_177 rfl (lv_at hl 1 rfl) ?_
      refine lv_iload hx hb dX5_shiftUp_178 (lv_at hl 4 rfl) ?_
      refine lv_iload_n hx hb dX5_shiftUp_180 rfl (lv_at hl 3 rfl) ?_
      refine lv_iadd hx hb dX5_shiftUp_181 ?_
      refine lv_iconst (v := (1 : Int32)) hx hb dX5_shiftUp_182 (by decide) ?_
      refine lv_iadd hx hb dX5_shiftUp_183 ?_
      obtain ⟨hi, h⟩ := h
      refine m_iast (T' := rT g (wS σ x1 ((i5 + i3) + (1 : Int32)))) X hw hS qS 0 rfl hi (vS hg) dX5_shiftUp_184 (fun H locs hw hS => ?_)
      refine lv_aload_n hx hb dX5_shiftUp_185 rfl (lv_at hl 0 rfl) ?_
      refine lv_iload_n hx hb dX5_shiftUp_186 rfl (lv_at hl 1 rfl) ?_
      refine m_cVv (TT := rT g) (As := [.int x1]) (rest := []) X hl.1 hw hS (kX5_trim hg h) mw_147 fX5_trim qM rfl rfl ⟨rfl, rfl, Nat.le_of_ble_eq_true rfl, Nat.le_of_ble_eq_true rfl⟩ rfl rfl (Nat.le_of_ble_eq_true rfl) dX5_shiftUp_187 (fun σ2 H locs h hw hS => ?_)
      exact m_vret X hr hw hS h dX5_shiftUp_190
    · replace h := h.2 hc
      refine lv_aload_n hx hb dX5_shiftUp_153 rfl (lv_at hl 0 rfl) ?_
      refine m_get (v := .ref (g.1 5001)) X hw qM rfl inA_X5 0 (by decide) mw_77 rfl dX5_shiftUp_154 ?_
      refine lv_sipush (v := (440 : Int32)) hx hb dX5_shiftUp_157 (by decide) ?_
      refine lv_iload_n hx hb dX5_shiftUp_160 rfl (lv_at hl 1 rfl) ?_
      refine lv_imul hx hb dX5_shiftUp_161 ?_
      refine lv_iload hx hb dX5_shiftUp_162 (lv_at hl 5 rfl) ?_
      refine lv_iadd hx hb dX5_shiftUp_164 ?_
      refine lv_lconst (v := (0 : Int64)) hx hb dX5_shiftUp_165 (by decide) ?_
      obtain ⟨hi, h⟩ := h
      refine m_last (T' := rT g (wL σ (((440 : Int32) * x1) + i6) (0 : Int64))) X hw hS qL 1 rfl hi (vL hg) dX5_shiftUp_166 (fun H locs hw hS => ?_)
      obtain ⟨a3, ea3⟩ : ∃ z : Int32, z = i6 + (1 : Int32) := ⟨_, rfl⟩
      replace h := h a3 ea3
      refine lv_iinc (v := a3) (lv' := [(6, .int a3), (0, .ref (g.1 5000)), (1, .int x1), (2, .int x2), (3, .int i3), (5, .int i5)]) hx hb dX5_shiftUp_167 hl (k := 5) rfl (by rw [ea3]; rfl) (by decide) rfl (fun ls hl => ?_)
      refine lv_goto (tgt := 147) hx hb dX5_shiftUp_170 (by decide) ?_
      exact hN147 i3 i5 a3 _ h H locs ls hw hS (lv_sub hl [1, 2, 3, 4, 5, 0] rfl)
def wpX5_shiftUp_117 (x1 : Int32) (x2 : Int32) (Q : RS → Prop) (N41 : Int32 → Int32 → Int32 → Int32 → RS → Prop) (i3 : Int32) (i4 : Int32) (i5 : Int32) (i6 : Int32) (l7 : Int64) (σ : RS) : Prop :=
  vp_in ((((440 : Int32) * x1) + i6) + i3) 99880 ∧ (
  ∀ a4 : Int32, a4 = i6 + (-1 : Int32) →
  N41 i3 i4 i5 a4 (wL σ ((((440 : Int32) * x1) + i6) + i3) (l7 &&& (268435455 : Int64))))
set_option maxRecDepth 100000 in
set_option maxHeartbeats 4000000 in
theorem wX5_shiftUp_117 {p : Program} {l : Launch} {e : Env} {s : State} {m : MethodId} {args : Array Value} {below : List Frame} {meth : Method} {c : Code} {D : va_G} {A : Nat → Prop} {g : mG} (hg : inj g) {x1 : Int32} {x2 : Int32} (X : cx p m meth c s args cX5_shiftUp 9 RX5 D (tyG g)) (hr : meth.sig.returnType = none) {Q : RS → Prop} {N41 : Int32 → Int32 → Int32 → Int32 → RS → Prop} (hN41 : ∀ (i3 : Int32) (i4 : Int32) (i5 : Int32) (i6 : Int32) (σ : RS), N41 i3 i4 i5 i6 σ → cW p l e rmX5_shiftUp s m args below meth c (MQ below (va_Qv Q (fun u t => wd D A (rT g u) t.heap) A) args s 0 0 A) D A (rT g σ) 41 9 [(0, .ref (g.1 5000)), (1, .int x1), (2, .int x2), (3, .int i3), (4, .int i4), (5, .int i5), (6, .int i6)]) : ∀ (i3 : Int32) (i4 : Int32) (i5 : Int32) (i6 : Int32) (l7 : Int64) (σ : RS), wpX5_shiftUp_117 x1 x2 Q N41 i3 i4 i5 i6 l7 σ → cW p l e rmX5_shiftUp s m args below meth c (MQ below (va_Qv Q (fun u t => wd D A (rT g u) t.heap) A) args s 0 0 A) D A (rT g σ) 117 9 [(0, .ref (g.1 5000)), (1, .int x1), (2, .int x2), (3, .int i3), (4, .int i4), (5, .int i5), (6, .int i6), (7, .long l7)] := by
  obtain ⟨hx, hb, hml, hown, hts, hK, hlk⟩ := id X
  intro i3 i4 i5 i6 l7 σ h H locs ls hw hS hl
  unfold wpX5_shiftUp_117 at h
  refine lv_aload_n hx hb dX5_shiftUp_117 rfl (lv_at hl 0 rfl) ?_
  refine m_get (v := .ref (g.1 5001)) X hw qM rfl inA_X5 0 (by decide) mw_77 rfl dX5_shiftUp_118 ?_
  refine lv_sipush (v := (440 : Int32)) hx hb dX5_shiftUp_121 (by decide) ?_
  refine lv_iload_n hx hb dX5_shiftUp_124 rfl (lv_at hl 1 rfl) ?_
  refine lv_imul hx hb dX5_shiftUp_125 ?_
  refine lv_iload hx hb dX5_shiftUp_126 (lv_at hl 6 rfl) ?_
  refine lv_iadd hx hb dX5_shiftUp_128 ?_
  refine lv_iload_n hx hb dX5_shiftUp_129 rfl (lv_at hl 3 rfl) ?_
  refine lv_iadd hx hb dX5_shiftUp_130 ?_
  refine lv_lload hx hb dX5_shiftUp_131 (lv_at hl 7 rfl) ?_
  refine lv_ldc2 (v := (268435455 : Int64)) hx hb hown (hts _ mw_146) dX5_shiftUp_133 ?_
  refine lv_land hx hb dX5_shiftUp_136 ?_
  obtain ⟨hi, h⟩ := h
  refine m_last (T' := rT g (wL σ ((((440 : Int32) * x1) + i6) + i3) (l7 &&& (268435455 : Int64)))) X hw hS qL 1 rfl hi (vL hg) dX5_shiftUp_137 (fun H locs hw hS => ?_)
  obtain ⟨a4, ea4⟩ : ∃ z : Int32, z = i6 + (-1 : Int32) := ⟨_, rfl⟩
  replace h := h a4 ea4
  refine lv_iinc (v := a4) (lv' := [(6, .int a4), (0, .ref (g.1 5000)), (1, .int x1), (2, .int x2), (3, .int i3), (4, .int i4), (5, .int i5), (7, .long l7)]) hx hb dX5_shiftUp_138 hl (k := 6) rfl (by rw [ea4]; rfl) (by decide) rfl (fun ls hl => ?_)
  refine lv_goto (tgt := 41) hx hb dX5_shiftUp_141 (by decide) ?_
  exact hN41 i3 i4 i5 a4 _ h H locs ls hw hS (lv_sub hl [1, 2, 3, 4, 5, 6, 0] rfl)
def wbX5_shiftUp_41 (x1 : Int32) (x2 : Int32) (Q : RS → Prop) (N41 : Int32 → Int32 → Int32 → Int32 → RS → Prop) (i3 : Int32) (i4 : Int32) (i5 : Int32) (i6 : Int32) (σ : RS) : Prop :=
  (i6 < 0 →
    ∃ n, lq4 (wbX5_shiftUp_147 x1 x2 Q) n i3 i5 (0 : Int32) σ) ∧
  (¬ i6 < 0 →
    vp_in (((440 : Int32) * x1) + i6) 99880 ∧ (
    ∀ b5 : Int64, b5 = jlshl (rL σ (((440 : Int32) * x1) + i6).toNatClampNeg) i4 →
    (¬ i6 = (i5 - (1 : Int32)) →
      vp_in (((((440 : Int32) * x1) + i6) + i3) + (1 : Int32)) 99880 ∧ (
      vp_in (((((440 : Int32) * x1) + i6) + i3) + (1 : Int32)) 99880 ∧ (
      wpX5_shiftUp_117 x1 x2 Q N41 i3 i4 i5 i6 b5 (wL σ (((((440 : Int32) * x1) + i6) + i3) + (1 : Int32)) ((rL σ (((((440 : Int32) * x1) + i6) + i3) + (1 : Int32)).toNatClampNeg) ||| (jlshr b5 (28 : Int32))))))) ∧
    (i6 = (i5 - (1 : Int32)) →
      vp_in (((((440 : Int32) * x1) + i6) + i3) + (1 : Int32)) 99880 ∧ (
      wpX5_shiftUp_117 x1 x2 Q N41 i3 i4 i5 i6 b5 (wL σ (((((440 : Int32) * x1) + i6) + i3) + (1 : Int32)) ((0 : Int64) ||| (jlshr b5 (28 : Int32))))))))
set_option maxRecDepth 100000 in
set_option maxHeartbeats 4000000 in
theorem wX5_shiftUp_41 {p : Program} {l : Launch} {e : Env} {s : State} {m : MethodId} {args : Array Value} {below : List Frame} {meth : Method} {c : Code} {D : va_G} {A : Nat → Prop} {g : mG} (hg : inj g) {x1 : Int32} {x2 : Int32} (X : cx p m meth c s args cX5_shiftUp 9 RX5 D (tyG g)) (hr : meth.sig.returnType = none) {Q : RS → Prop} : ∀ (n : Nat) (i3 : Int32) (i4 : Int32) (i5 : Int32) (i6 : Int32) (σ : RS), lq5 (wbX5_shiftUp_41 x1 x2 Q) n i3 i4 i5 i6 σ → cW p l e rmX5_shiftUp s m args below meth c (MQ below (va_Qv Q (fun u t => wd D A (rT g u) t.heap) A) args s 0 0 A) D A (rT g σ) 41 9 [(0, .ref (g.1 5000)), (1, .int x1), (2, .int x2), (3, .int i3), (4, .int i4), (5, .int i5), (6, .int i6)] := by
  obtain ⟨hx, hb, hml, hown, hts, hK, hlk⟩ := id X
  intro n
  induction n with
  | zero =>
    intro i3 i4 i5 i6 σ h
    exact h.elim
  | succ n hN41 =>
    intro i3 i4 i5 i6 σ h H locs ls hw hS hl
    replace h : wbX5_shiftUp_41 x1 x2 Q (lq5 (wbX5_shiftUp_41 x1 x2 Q) n) i3 i4 i5 i6 σ := h
    unfold wbX5_shiftUp_41 at h
    refine lv_iload hx hb dX5_shiftUp_41 (lv_at hl 6 rfl) ?_
    refine lv_if_lt (tgt := 144) hx hb dX5_shiftUp_43 (by decide) (fun hc => ?_) (fun hc => ?_)
    · replace h := h.1 hc
      refine lv_iconst (v := (0 : Int32)) hx hb dX5_shiftUp_144 (by decide) ?_
      refine lv_istore (lv' := [(6, .int (0 : Int32)), (0, .ref (g.1 5000)), (1, .int x1), (2, .int x2), (3, .int i3), (4, .int i4), (5, .int i5)]) hx hb dX5_shiftUp_145 hl (by decide) rfl (fun ls hl => ?_)
      obtain ⟨n9, h⟩ := h
      exact wX5_shiftUp_147 hg X hr n9 i3 i5 (0 : Int32) _ h H locs ls hw hS (lv_sub hl [1, 2, 3, 4, 6, 0] rfl)
    · replace h := h.2 hc
      refine lv_aload_n hx hb dX5_shiftUp_46 rfl (lv_at hl 0 rfl) ?_
      refine m_get (v := .ref (g.1 5001)) X hw qM rfl inA_X5 0 (by decide) mw_77 rfl dX5_shiftUp_47 ?_
      refine lv_sipush (v := (440 : Int32)) hx hb dX5_shiftUp_50 (by decide) ?_
      refine lv_iload_n hx hb dX5_shiftUp_53 rfl (lv_at hl 1 rfl) ?_
      refine lv_imul hx hb dX5_shiftUp_54 ?_
      refine lv_iload hx hb dX5_shiftUp_55 (lv_at hl 6 rfl) ?_
      refine lv_iadd hx hb dX5_shiftUp_57 ?_
      obtain ⟨hi, h⟩ := h
      refine m_lald X hw qL 1 rfl hi dX5_shiftUp_58 ?_
      refine lv_iload hx hb dX5_shiftUp_59 (lv_at hl 4 rfl) ?_
      refine lv_lshl (v := jlshl (rL σ (((440 : Int32) * x1) + i6).toNatClampNeg) i4) hx hb dX5_shiftUp_61 rfl ?_
      refine lv_topl (fun b5 eb5 => ?_)
      replace h := h b5 eb5
      refine lv_lstore (lv' := [(7, .long b5), (0, .ref (g.1 5000)), (1, .int x1), (2, .int x2), (3, .int i3), (4, .int i4), (5, .int i5), (6, .int i6)]) hx hb dX5_shiftUp_62 hl (by decide) rfl (fun ls hl => ?_)
      refine lv_aload_n hx hb dX5_shiftUp_64 rfl (lv_at hl 1 rfl) ?_
      refine m_get (v := .ref (g.1 5001)) X hw qM rfl inA_X5 0 (by decide) mw_77 rfl dX5_shiftUp_65 ?_
      refine lv_sipush (v := (440 : Int32)) hx hb dX5_shiftUp_68 (by decide) ?_
      refine lv_iload_n hx hb dX5_shiftUp_71 rfl (lv_at hl 2 rfl) ?_
      refine lv_imul hx hb dX5_shiftUp_72 ?_
      refine lv_iload hx hb dX5_shiftUp_73 (lv_at hl 7 rfl) ?_
      refine lv_iadd hx hb dX5_shiftUp_75 ?_
      refine lv_iload_n hx hb dX5_shiftUp_76 rfl (lv_at hl 4 rfl) ?_
      refine lv_iadd hx hb dX5_shiftUp_77 ?_
      refine lv_iconst (v := (1 : Int32)) hx hb dX5_shiftUp_78 (by decide) ?_
      refine lv_iadd hx hb dX5_shiftUp_79 ?_
      refine lv_iload hx hb dX5_shiftUp_80 (lv_at hl 7 rfl) ?_
      refine lv_iload hx hb dX5_shiftUp_82 (lv_at hl 6 rfl) ?_
      refine lv_iconst (v := (1 : Int32)) hx hb dX5_shiftUp_84 (by decide) ?_
      refine lv_isub hx hb dX5_shiftUp_85 ?_
      refine lv_icmp_ne (tgt := 93) hx hb dX5_shiftUp_86 (by decide) (fun hc => ?_) (fun hc => ?_)
      · replace h := h.1 hc
        refine lv_aload_n hx hb dX5_shiftUp_93 rfl (lv_at hl 1 rfl) ?_
        refine m_get (v := .ref (g.1 5001)) X hw qM rfl inA_X5 0 (by decide) mw_77 rfl dX5_shiftUp_94 ?_
        refine lv_sipush (v := (440 : Int32)) hx hb dX5_shiftUp_97 (by decide) ?_
        refine lv_iload_n hx hb dX5_shiftUp_100 rfl (lv_at hl 2 rfl) ?_
        refine lv_imul hx hb dX5_shiftUp_101 ?_
        refine lv_iload hx hb dX5_shiftUp_102 (lv_at hl 7 rfl) ?_
        refine lv_iadd hx hb dX5_shiftUp_104 ?_
        refine lv_iload_n hx hb dX5_shiftUp_105 rfl (lv_at hl 4 rfl) ?_
        refine lv_iadd hx hb dX5_shiftUp_106 ?_
        refine lv_iconst (v := (1 : Int32)) hx hb dX5_shiftUp_107 (by decide) ?_
        refine lv_iadd hx hb dX5_shiftUp_108 ?_
        obtain ⟨hi, h⟩ := h
        refine m_lald X hw qL 1 rfl hi dX5_shiftUp_109 ?_
        refine lv_lload hx hb dX5_shiftUp_110 (lv_at hl 0 rfl) ?_
        refine lv_bipush (v := (28 : Int32)) hx hb dX5_shiftUp_112 (by decide) ?_
        refine lv_lshr (v := jlshr b5 (28 : Int32)) hx hb dX5_shiftUp_114 rfl ?_
        refine lv_lor hx hb dX5_shiftUp_115 ?_
        obtain ⟨hi, h⟩ := h
        refine m_last (T' := rT g (wL σ (((((440 : Int32) * x1) + i6) + i3) + (1 : Int32)) ((rL σ (((((440 : Int32) * x1) + i6) + i3) + (1 : Int32)).toNatClampNeg) ||| (jlshr b5 (28 : Int32))))) X hw hS qL 1 rfl hi (vL hg) dX5_shiftUp_116 (fun H locs hw hS => ?_)
        exact wX5_shiftUp_117 hg X hr hN41 i3 i4 i5 i6 b5 _ h H locs ls hw hS (lv_sub hl [1, 2, 3, 4, 5, 6, 7, 0] rfl)
      · replace h := h.2 hc
        refine lv_lconst (v := (0 : Int64)) hx hb dX5_shiftUp_89 (by decide) ?_
        refine lv_goto (tgt := 110) hx hb dX5_shiftUp_90 (by decide) ?_
        refine lv_lload hx hb dX5_shiftUp_110 (lv_at hl 0 rfl) ?_
        refine lv_bipush (v := (28 : Int32)) hx hb dX5_shiftUp_112 (by decide) ?_
        refine lv_lshr (v := jlshr b5 (28 : Int32)) hx hb dX5_shiftUp_114 rfl ?_
        refine lv_lor hx hb dX5_shiftUp_115 ?_
        obtain ⟨hi, h⟩ := h
        refine m_last (T' := rT g (wL σ (((((440 : Int32) * x1) + i6) + i3) + (1 : Int32)) ((0 : Int64) ||| (jlshr b5 (28 : Int32))))) X hw hS qL 1 rfl hi (vL hg) dX5_shiftUp_116 (fun H locs hw hS => ?_)
        exact wX5_shiftUp_117 hg X hr hN41 i3 i4 i5 i6 b5 _ h H locs ls hw hS (lv_sub hl [1, 2, 3, 4, 5, 6, 7, 0] rfl)
def wpX5_shiftUp_0 (x1 : Int32) (x2 : Int32) (Q : RS → Prop) (σ : RS) : Prop :=
  ∀ a6 : Int32, a6 = x2 / (28 : Int32) →
  ∀ a7 : Int32, a7 = x2 - x2 / (28 : Int32) * (28 : Int32) →
  vp_in x1 227 ∧ (
  ∀ a8 : Int32, a8 = rS σ x1.toNatClampNeg →
  vp_in ((((440 : Int32) * x1) + a8) + a6) 99880 ∧ (
  ∀ a9 : Int32, a9 = a8 - (1 : Int32) →
  ∃ n, lq5 (wbX5_shiftUp_41 x1 x2 Q) n a6 a7 a8 a9 (wL σ ((((440 : Int32) * x1) + a8) + a6) (0 : Int64))))
set_option maxRecDepth 100000 in
set_option maxHeartbeats 4000000 in
theorem wX5_shiftUp_0 {p : Program} {l : Launch} {e : Env} {s : State} {m : MethodId} {args : Array Value} {below : List Frame} {meth : Method} {c : Code} {D : va_G} {A : Nat → Prop} {g : mG} (hg : inj g) {x1 : Int32} {x2 : Int32} (X : cx p m meth c s args cX5_shiftUp 9 RX5 D (tyG g)) (hr : meth.sig.returnType = none) {Q : RS → Prop} : ∀ (σ : RS), wpX5_shiftUp_0 x1 x2 Q σ → cW p l e rmX5_shiftUp s m args below meth c (MQ below (va_Qv Q (fun u t => wd D A (rT g u) t.heap) A) args s 0 0 A) D A (rT g σ) 0 9 [(0, .ref (g.1 5000)), (1, .int x1), (2, .int x2)] := by
  obtain ⟨hx, hb, hml, hown, hts, hK, hlk⟩ := id X
  intro σ h H locs ls hw hS hl
  unfold wpX5_shiftUp_0 at h
  refine lv_iload_n hx hb dX5_shiftUp_0 rfl (lv_at hl 2 rfl) ?_
  refine lv_bipush (v := (28 : Int32)) hx hb dX5_shiftUp_1 (by decide) ?_
  refine lv_idiv hx hb dX5_shiftUp_3 (by decide) ?_
  refine lv_topi (fun a6 ea6 => ?_)
  replace h := h a6 ea6
  refine lv_istore_n (lv' := [(3, .int a6), (0, .ref (g.1 5000)), (1, .int x1), (2, .int x2)]) hx hb dX5_shiftUp_4 rfl hl (by decide) rfl (fun ls hl => ?_)
  refine lv_iload_n hx hb dX5_shiftUp_5 rfl (lv_at hl 3 rfl) ?_
  refine lv_bipush (v := (28 : Int32)) hx hb dX5_shiftUp_6 (by decide) ?_
  refine lv_irem hx hb dX5_shiftUp_8 (by decide) ?_
  refine lv_topi (fun a7 ea7 => ?_)
  replace h := h a7 ea7
  refine lv_istore (lv' := [(4, .int a7), (3, .int a6), (0, .ref (g.1 5000)), (1, .int x1), (2, .int x2)]) hx hb dX5_shiftUp_9 hl (by decide) rfl (fun ls hl => ?_)
  refine lv_aload_n hx hb dX5_shiftUp_11 rfl (lv_at hl 2 rfl) ?_
  refine m_get (v := .ref (g.1 5002)) X hw qM rfl inA_X5 1 (by decide) mw_78 rfl dX5_shiftUp_12 ?_
  refine lv_iload_n hx hb dX5_shiftUp_15 rfl (lv_at hl 3 rfl) ?_
  obtain ⟨hi, h⟩ := h
  refine m_iald X hw qS 0 rfl hi dX5_shiftUp_16 ?_
  refine lv_topi (fun a8 ea8 => ?_)
  replace h := h a8 ea8
  refine lv_istore (lv' := [(5, .int a8), (4, .int a7), (3, .int a6), (0, .ref (g.1 5000)), (1, .int x1), (2, .int x2)]) hx hb dX5_shiftUp_17 hl (by decide) rfl (fun ls hl => ?_)
  refine lv_aload_n hx hb dX5_shiftUp_19 rfl (lv_at hl 3 rfl) ?_
  refine m_get (v := .ref (g.1 5001)) X hw qM rfl inA_X5 0 (by decide) mw_77 rfl dX5_shiftUp_20 ?_
  refine lv_sipush (v := (440 : Int32)) hx hb dX5_shiftUp_23 (by decide) ?_
  refine lv_iload_n hx hb dX5_shiftUp_26 rfl (lv_at hl 4 rfl) ?_
  refine lv_imul hx hb dX5_shiftUp_27 ?_
  refine lv_iload hx hb dX5_shiftUp_28 (lv_at hl 0 rfl) ?_
  refine lv_iadd hx hb dX5_shiftUp_30 ?_
  refine lv_iload_n hx hb dX5_shiftUp_31 rfl (lv_at hl 2 rfl) ?_
  refine lv_iadd hx hb dX5_shiftUp_32 ?_
  refine lv_lconst (v := (0 : Int64)) hx hb dX5_shiftUp_33 (by decide) ?_
  obtain ⟨hi, h⟩ := h
  refine m_last (T' := rT g (wL σ ((((440 : Int32) * x1) + a8) + a6) (0 : Int64))) X hw hS qL 1 rfl hi (vL hg) dX5_shiftUp_34 (fun H locs hw hS => ?_)
  refine lv_iload hx hb dX5_shiftUp_35 (lv_at hl 0 rfl) ?_
  refine lv_iconst (v := (1 : Int32)) hx hb dX5_shiftUp_37 (by decide) ?_
  refine lv_isub hx hb dX5_shiftUp_38 ?_
  refine lv_topi (fun a9 ea9 => ?_)
  replace h := h a9 ea9
  refine lv_istore (lv' := [(6, .int a9), (5, .int a8), (4, .int a7), (3, .int a6), (0, .ref (g.1 5000)), (1, .int x1), (2, .int x2)]) hx hb dX5_shiftUp_39 hl (by decide) rfl (fun ls hl => ?_)
  obtain ⟨n9, h⟩ := h
  exact wX5_shiftUp_41 hg X hr n9 a6 a7 a8 a9 _ h H locs ls hw hS (lv_sub hl [4, 5, 6, 3, 2, 1, 0] rfl)
def wpX5_shiftUp (x1 : Int32) (x2 : Int32) (σ : RS) (Q : RS → Prop) : Prop := wpX5_shiftUp_0 x1 x2 Q σ
theorem kX5_shiftUp {l : Launch} {D : va_G} {A : Nat → Prop} {g : mG} (hg : inj g) {x1 : Int32} {x2 : Int32} {σ : RS} {Q : RS → Prop} (h : wpX5_shiftUp x1 x2 σ Q) : Met l yX5_shiftUp (Cond.code yX5_shiftUp cX5_shiftUp 9 none :: wsA) rmX5_shiftUp (mPc D (tyG g) A (rT g σ) [.ref (g.1 5000), .int x1, .int x2]) (va_Qv Q (fun u t => wd D A (rT g u) t.heap) A) 0 0 A :=
  m_met (by decide +kernel) (Nat.le_of_ble_eq_true rfl) (fun p e s m below meth c X hr H locs ls hw hS hl => wX5_shiftUp_0 hg X hr σ h H locs ls hw hS (lv_sub hl [0, 1, 2] rfl))
theorem fX5_shiftUp : vfit yX5_shiftUp cX5_shiftUp 9 none 2 := ⟨mw_143, mw_144, mw_5, mw_145, by decide +kernel, by decide +kernel, by decide +kernel⟩
/-! BigPolysModel.halve(I)V -/
def rmX5_halve : Room := { frames := 1, cells := 0, slots := 0, locals := 21 }
def wpX5_halve_45 (x1 : Int32) (Q : RS → Prop) (N2 : Int32 → RS → Prop) (i2 : Int32) (l3 : Int64) (σ : RS) : Prop :=
  vp_in (((440 : Int32) * x1) + i2) 99880 ∧ (
  vp_in (((440 : Int32) * x1) + i2) 99880 ∧ (
  ∀ a1 : Int32, a1 = i2 + (1 : Int32) →
  N2 a1 (wL σ (((440 : Int32) * x1) + i2) ((jlshr (rL σ (((440 : Int32) * x1) + i2).toNatClampNeg) (1 : Int32)) ||| (jlshl l3 (27 : Int32))))))
set_option maxRecDepth 100000 in
set_option maxHeartbeats 4000000 in
theorem wX5_halve_45 {p : Program} {l : Launch} {e : Env} {s : State} {m : MethodId} {args : Array Value} {below : List Frame} {meth : Method} {c : Code} {D : va_G} {A : Nat → Prop} {g : mG} (hg : inj g) {x1 : Int32} (X : cx p m meth c s args cX5_halve 5 RX5 D (tyG g)) (hr : meth.sig.returnType = none) {Q : RS → Prop} {N2 : Int32 → RS → Prop} (hN2 : ∀ (i2 : Int32) (σ : RS), N2 i2 σ → cW p l e rmX5_halve s m args below meth c (MQ below (va_Qv Q (fun u t => wd D A (rT g u) t.heap) A) args s 0 0 A) D A (rT g σ) 2 5 [(0, .ref (g.1 5000)), (1, .int x1), (2, .int i2)]) : ∀ (i2 : Int32) (l3 : Int64) (σ : RS), wpX5_halve_45 x1 Q N2 i2 l3 σ → cW p l e rmX5_halve s m args below meth c (MQ below (va_Qv Q (fun u t => wd D A (rT g u) t.heap) A) args s 0 0 A) D A (rT g σ) 45 5 [(0, .ref (g.1 5000)), (1, .int x1), (2, .int i2), (3, .long l3)] := by
  obtain ⟨hx, hb, hml, hown, hts, hK, hlk⟩ := id X
  intro i2 l3 σ h H locs ls hw hS hl
  unfold wpX5_halve_45 at h
  refine lv_aload_n hx hb dX5_halve_45 rfl (lv_at hl 0 rfl) ?_
  refine m_get (v := .ref (g.1 5001)) X hw qM rfl inA_X5 0 (by decide) mw_77 rfl dX5_halve_46 ?_
  refine lv_sipush (v := (440 : Int32)) hx hb dX5_halve_49 (by decide) ?_
  refine lv_iload_n hx hb dX5_halve_52 rfl (lv_at hl 1 rfl) ?_
  refine lv_imul hx hb dX5_halve_53 ?_
  refine lv_iload_n hx hb dX5_halve_54 rfl (lv_at hl 2 rfl) ?_
  refine lv_iadd hx hb dX5_halve_55 ?_
  refine lv_aload_n hx hb dX5_halve_56 rfl (lv_at hl 0 rfl) ?_
  refine m_get (v := .ref (g.1 5001)) X hw qM rfl inA_X5 0 (by decide) mw_77 rfl dX5_halve_57 ?_
  refine lv_sipush (v := (440 : Int32)) hx hb dX5_halve_60 (by decide) ?_
  refine lv_iload_n hx hb dX5_halve_63 rfl (lv_at hl 1 rfl) ?_
  refine lv_imul hx hb dX5_halve_64 ?_
  refine lv_iload_n hx hb dX5_halve_65 rfl (lv_at hl 2 rfl) ?_
  refine lv_iadd hx hb dX5_halve_66 ?_
  obtain ⟨hi, h⟩ := h
  refine m_lald X hw qL 1 rfl hi dX5_halve_67 ?_
  refine lv_iconst (v := (1 : Int32)) hx hb dX5_halve_68 (by decide) ?_
  refine lv_lshr (v := jlshr (rL σ (((440 : Int32) * x1) + i2).toNatClampNeg) (1 : Int32)) hx hb dX5_halve_69 rfl ?_
  refine lv_lload_n hx hb dX5_halve_70 rfl (lv_at hl 3 rfl) ?_
  refine lv_bipush (v := (27 : Int32)) hx hb dX5_halve_71 (by decide) ?_
  refine lv_lshl (v := jlshl l3 (27 : Int32)) hx hb dX5_halve_73 rfl ?_
  refine lv_lor hx hb dX5_halve_74 ?_
  obtain ⟨hi, h⟩ := h
  refine m_last (T' := rT g (wL σ (((440 : Int32) * x1) + i2) ((jlshr (rL σ (((440 : Int32) * x1) + i2).toNatClampNeg) (1 : Int32)) ||| (jlshl l3 (27 : Int32))))) X hw hS qL 1 rfl hi (vL hg) dX5_halve_75 (fun H locs hw hS => ?_)
  obtain ⟨a1, ea1⟩ : ∃ z : Int32, z = i2 + (1 : Int32) := ⟨_, rfl⟩
  replace h := h a1 ea1
  refine lv_iinc (v := a1) (lv' := [(2, .int a1), (0, .ref (g.1 5000)), (1, .int x1), (3, .long l3)]) hx hb dX5_halve_76 hl (k := 2) rfl (by rw [ea1]; rfl) (by decide) rfl (fun ls hl => ?_)
  refine lv_goto (tgt := 2) hx hb dX5_halve_79 (by decide) ?_
  exact hN2 a1 _ h H locs ls hw hS (lv_sub hl [1, 2, 0] rfl)
def wbX5_halve_2 (x1 : Int32) (Q : RS → Prop) (N2 : Int32 → RS → Prop) (i2 : Int32) (σ : RS) : Prop :=
  vp_in x1 227 ∧ (
  ((rS σ x1.toNatClampNeg) ≤ i2 →
    wpX5_trim x1 σ (fun (σ3 : RS) =>
      Q σ3)) ∧
  (¬ (rS σ x1.toNatClampNeg) ≤ i2 →
    vp_in x1 227 ∧ (
    ((rS σ x1.toNatClampNeg) ≤ (i2 + (1 : Int32)) →
      wpX5_halve_45 x1 Q N2 i2 (0 : Int64) σ) ∧
    (¬ (rS σ x1.toNatClampNeg) ≤ (i2 + (1 : Int32)) →
      vp_in ((((440 : Int32) * x1) + i2) + (1 : Int32)) 99880 ∧ (
      ∀ b4 : Int64, b4 = (rL σ ((((440 : Int32) * x1) + i2) + (1 : Int32)).toNatClampNeg) &&& (1 : Int64) →
      wpX5_halve_45 x1 Q N2 i2 b4 σ)))))
set_option maxRecDepth 100000 in
set_option maxHeartbeats 4000000 in
theorem wX5_halve_2 {p : Program} {l : Launch} {e : Env} {s : State} {m : MethodId} {args : Array Value} {below : List Frame} {meth : Method} {c : Code} {D : va_G} {A : Nat → Prop} {g : mG} (hg : inj g) {x1 : Int32} (X : cx p m meth c s args cX5_halve 5 RX5 D (tyG g)) (hr : meth.sig.returnType = none) {Q : RS → Prop} : ∀ (n : Nat) (i2 : Int32) (σ : RS), lq2 (wbX5_halve_2 x1 Q) n i2 σ → cW p l e rmX5_halve s m args below meth c (MQ below (va_Qv Q (fun u t => wd D A (rT g u) t.heap) A) args s 0 0 A) D A (rT g σ) 2 5 [(0, .ref (g.1 5000)), (1, .int x1), (2, .int i2)] := by
  obtain ⟨hx, hb, hml, hown, hts, hK, hlk⟩ := id X
  intro n
  induction n with
  | zero =>
    intro i2 σ h
    exact h.elim
  | succ n hN2 =>
    intro i2 σ h H locs ls hw hS hl
    replace h : wbX5_halve_2 x1 Q (lq2 (wbX5_halve_2 x1 Q) n) i2 σ := h
    unfold wbX5_halve_2 at h
    refine lv_iload_n hx hb dX5_halve_2 rfl (lv_at hl 2 rfl) ?_
    refine lv_aload_n hx hb dX5_halve_3 rfl (lv_at hl 0 rfl) ?_
    refine m_get (v := .ref (g.1 5002)) X hw qM rfl inA_X5 1 (by decide) mw_78 rfl dX5_halve_4 ?_
    refine lv_iload_n hx hb dX5_halve_7 rfl (lv_at hl 1 rfl) ?_
    obtain ⟨hi, h⟩ := h
    refine m_iald X hw qS 0 rfl hi dX5_halve_8 ?_
    refine lv_icmp_ge (tgt := 82) hx hb dX5_halve_9 (by decide) (fun hc => ?_) (fun hc => ?_)
    · replace h := h.1 hc
      refine lv_aload_n hx hb dX5_halve_82 rfl (lv_at hl 0 rfl) ?_
      refine lv_iload_n hx hb dX5_halve_83 rfl (lv_at hl 1 rfl) ?_
      refine m_cVv (TT := rT g) (As := [.int x1]) (rest := []) X hl.1 hw hS (kX5_trim hg h) mw_147 fX5_trim qM rfl rfl ⟨rfl, rfl, Nat.le_of_ble_eq_true rfl, Nat.le_of_ble_eq_true rfl⟩ rfl rfl (Nat.le_of_ble_eq_true rfl) dX5_halve_84 (fun σ3 H locs h hw hS => ?_)
      exact m_vret X hr hw hS h dX5_halve_87
    · replace h := h.2 hc
      refine lv_iload_n hx hb dX5_halve_12 rfl (lv_at hl 2 rfl) ?_
      refine lv_iconst (v := (1 : Int32)) hx hb dX5_halve_13 (by decide) ?_
      refine lv_iadd hx hb dX5_halve_14 ?_
      refine lv_aload_n hx hb dX5_halve_15 rfl (lv_at hl 0 rfl) ?_
      refine m_get (v := .ref (g.1 5002)) X hw qM rfl inA_X5 1 (by decide) mw_78 rfl dX5_halve_16 ?_
      refine lv_iload_n hx hb dX5_halve_19 rfl (lv_at hl 1 rfl) ?_
      obtain ⟨hi, h⟩ := h
      refine m_iald X hw qS 0 rfl hi dX5_halve_20 ?_
      refine lv_icmp_ge (tgt := 43) hx hb dX5_halve_21 (by decide) (fun hc => ?_) (fun hc => ?_)
      · replace h := h.1 hc
        refine lv_lconst (v := (0 : Int64)) hx hb dX5_halve_43 (by decide) ?_
        refine lv_lstore_n (lv' := [(3, .long (0 : Int64)), (0, .ref (g.1 5000)), (1, .int x1), (2, .int i2)]) hx hb dX5_halve_44 rfl hl (by decide) rfl (fun ls hl => ?_)
        exact wX5_halve_45 hg X hr hN2 i2 (0 : Int64) _ h H locs ls hw hS (lv_sub hl [1, 2, 3, 0] rfl)
      · replace h := h.2 hc
        refine lv_aload_n hx hb dX5_halve_24 rfl (lv_at hl 0 rfl) ?_
        refine m_get (v := .ref (g.1 5001)) X hw qM rfl inA_X5 0 (by decide) mw_77 rfl dX5_halve_25 ?_
        refine lv_sipush (v := (440 : Int32)) hx hb dX5_halve_28 (by decide) ?_
        refine lv_iload_n hx hb dX5_halve_31 rfl (lv_at hl 1 rfl) ?_
        refine lv_imul hx hb dX5_halve_32 ?_
        refine lv_iload_n hx hb dX5_halve_33 rfl (lv_at hl 2 rfl) ?_
        refine lv_iadd hx hb dX5_halve_34 ?_
        refine lv_iconst (v := (1 : Int32)) hx hb dX5_halve_35 (by decide) ?_
        refine lv_iadd hx hb dX5_halve_36 ?_
        obtain ⟨hi, h⟩ := h
        refine m_lald X hw qL 1 rfl hi dX5_halve_37 ?_
        refine lv_lconst (v := (1 : Int64)) hx hb dX5_halve_38 (by decide) ?_
        refine lv_land hx hb dX5_halve_39 ?_
        refine lv_goto (tgt := 44) hx hb dX5_halve_40 (by decide) ?_
        refine lv_topl (fun b4 eb4 => ?_)
        replace h := h b4 eb4
        refine lv_lstore_n (lv' := [(3, .long b4), (0, .ref (g.1 5000)), (1, .int x1), (2, .int i2)]) hx hb dX5_halve_44 rfl hl (by decide) rfl (fun ls hl => ?_)
        exact wX5_halve_45 hg X hr hN2 i2 b4 _ h H locs ls hw hS (lv_sub hl [1, 2, 3, 0] rfl)
def wpX5_halve_0 (x1 : Int32) (Q : RS → Prop) (σ : RS) : Prop :=
  ∃ n, lq2 (wbX5_halve_2 x1 Q) n (0 : Int32) σ
set_option maxRecDepth 100000 in
set_option maxHeartbeats 4000000 in
theorem wX5_halve_0 {p : Program} {l : Launch} {e : Env} {s : State} {m : MethodId} {args : Array Value} {below : List Frame} {meth : Method} {c : Code} {D : va_G} {A : Nat → Prop} {g : mG} (hg : inj g) {x1 : Int32} (X : cx p m meth c s args cX5_halve 5 RX5 D (tyG g)) (hr : meth.sig.returnType = none) {Q : RS → Prop} : ∀ (σ : RS), wpX5_halve_0 x1 Q σ → cW p l e rmX5_halve s m args below meth c (MQ below (va_Qv Q (fun u t => wd D A (rT g u) t.heap) A) args s 0 0 A) D A (rT g σ) 0 5 [(0, .ref (g.1 5000)), (1, .int x1)] := by
  obtain ⟨hx, hb, hml, hown, hts, hK, hlk⟩ := id X
  intro σ h H locs ls hw hS hl
  unfold wpX5_halve_0 at h
  refine lv_iconst (v := (0 : Int32)) hx hb dX5_halve_0 (by decide) ?_
  refine lv_istore_n (lv' := [(2, .int (0 : Int32)), (0, .ref (g.1 5000)), (1, .int x1)]) hx hb dX5_halve_1 rfl hl (by decide) rfl (fun ls hl => ?_)
  obtain ⟨n9, h⟩ := h
  exact wX5_halve_2 hg X hr n9 (0 : Int32) _ h H locs ls hw hS (lv_sub hl [1, 2, 0] rfl)
def wpX5_halve (x1 : Int32) (σ : RS) (Q : RS → Prop) : Prop := wpX5_halve_0 x1 Q σ
theorem kX5_halve {l : Launch} {D : va_G} {A : Nat → Prop} {g : mG} (hg : inj g) {x1 : Int32} {σ : RS} {Q : RS → Prop} (h : wpX5_halve x1 σ Q) : Met l yX5_halve (Cond.code yX5_halve cX5_halve 5 none :: wsA) rmX5_halve (mPc D (tyG g) A (rT g σ) [.ref (g.1 5000), .int x1]) (va_Qv Q (fun u t => wd D A (rT g u) t.heap) A) 0 0 A :=
  m_met (by decide +kernel) (Nat.le_of_ble_eq_true rfl) (fun p e s m below meth c X hr H locs ls hw hS hl => wX5_halve_0 hg X hr σ h H locs ls hw hS (lv_sub hl [0, 1] rfl))
theorem fX5_halve : vfit yX5_halve cX5_halve 5 none 1 := ⟨mw_396, mw_397, mw_5, mw_398, by decide +kernel, by decide +kernel, by decide +kernel⟩
/-! BigPolysModel.divide(III)V -/
def rmX5_divide : Room := { frames := 2, cells := 0, slots := 0, locals := 59 }
def wpX5_divide_189 (x1 : Int32) (x2 : Int32) (x3 : Int32) (Q : RS → Prop) (σ : RS) : Prop :=
  (x3 = (-1 : Int32) →
    Q σ) ∧
  (¬ x3 = (-1 : Int32) →
    wpX5_trim x3 σ (fun (σ2 : RS) =>
      Q σ2))
set_option maxRecDepth 100000 in
set_option maxHeartbeats 4000000 in
theorem wX5_divide_189 {p : Program} {l : Launch} {e : Env} {s : State} {m : MethodId} {args : Array Value} {below : List Frame} {meth : Method} {c : Code} {D : va_G} {A : Nat → Prop} {g : mG} (hg : inj g) {x1 : Int32} {x2 : Int32} {x3 : Int32} (X : cx p m meth c s args cX5_divide 7 RX5 D (tyG g)) (hr : meth.sig.returnType = none) {Q : RS → Prop} : ∀ (σ : RS), wpX5_divide_189 x1 x2 x3 Q σ → cW p l e rmX5_divide s m args below meth c (MQ below (va_Qv Q (fun u t => wd D A (rT g u) t.heap) A) args s 0 0 A) D A (rT g σ) 189 7 [(0, .ref (g.1 5000)), (1, .int x1), (2, .int x2), (3, .int x3)] := by
  obtain ⟨hx, hb, hml, hown, hts, hK, hlk⟩ := id X
  intro σ h H locs ls hw hS hl
  unfold wpX5_divide_189 at h
  refine lv_iload_n hx hb dX5_divide_189 rfl (lv_at hl 3 rfl) ?_
  refine lv_iconst (v := (-1 : Int32)) hx hb dX5_divide_190 (by decide) ?_
  refine lv_icmp_eq (tgt := 199) hx hb dX5_divide_191 (by decide) (fun hc => ?_) (fun hc => ?_)
  · replace h := h.1 hc
    exact m_vret X hr hw hS h dX5_divide_199
  · replace h := h.2 hc
    refine lv_aload_n hx hb dX5_divide_194 rfl (lv_at hl 0 rfl) ?_
    refine lv_iload_n hx hb dX5_divide_195 rfl (lv_at hl 3 rfl) ?_
    refine m_cVv (TT := rT g) (As := [.int x3]) (rest := []) X hl.1 hw hS (kX5_trim hg h) mw_147 fX5_trim qM rfl rfl ⟨rfl, rfl, Nat.le_of_ble_eq_true rfl, Nat.le_of_ble_eq_true rfl⟩ rfl rfl (Nat.le_of_ble_eq_true rfl) dX5_divide_196 (fun σ2 H locs h hw hS => ?_)
    exact m_vret X hr hw hS h dX5_divide_199
def wpX5_divide_177 (x1 : Int32) (x2 : Int32) (x3 : Int32) (Q : RS → Prop) (N122 : Int32 → Int32 → RS → Prop) (i5 : Int32) (i6 : Int32) (σ : RS) : Prop :=
  wpX5_halve i5 σ (fun (σ4 : RS) =>
    ∀ a5 : Int32, a5 = i6 + (-1 : Int32) →
    N122 i5 a5 σ4)
set_option maxRecDepth 100000 in
set_option maxHeartbeats 4000000 in
theorem wX5_divide_177 {p : Program} {l : Launch} {e : Env} {s : State} {m : MethodId} {args : Array Value} {below : List Frame} {meth : Method} {c : Code} {D : va_G} {A : Nat → Prop} {g : mG} (hg : inj g) {x1 : Int32} {x2 : Int32} {x3 : Int32} (X : cx p m meth c s args cX5_divide 7 RX5 D (tyG g)) (hr : meth.sig.returnType = none) {Q : RS → Prop} {N122 : Int32 → Int32 → RS → Prop} (hN122 : ∀ (i5 : Int32) (i6 : Int32) (σ : RS), N122 i5 i6 σ → cW p l e rmX5_divide s m args below meth c (MQ below (va_Qv Q (fun u t => wd D A (rT g u) t.heap) A) args s 0 0 A) D A (rT g σ) 122 7 [(0, .ref (g.1 5000)), (1, .int x1), (2, .int x2), (3, .int x3), (5, .int i5), (6, .int i6)]) : ∀ (i5 : Int32) (i6 : Int32) (σ : RS), wpX5_divide_177 x1 x2 x3 Q N122 i5 i6 σ → cW p l e rmX5_divide s m args below meth c (MQ below (va_Qv Q (fun u t => wd D A (rT g u) t.heap) A) args s 0 0 A) D A (rT g σ) 177 7 [(0, .ref (g.1 5000)), (1, .int x1), (2, .int x2), (3, .int x3), (5, .int i5), (6, .int i6)] := by
  obtain ⟨hx, hb, hml, hown, hts, hK, hlk⟩ := id X
  intro i5 i6 σ h H locs ls hw hS hl
  unfold wpX5_divide_177 at h
  refine lv_aload_n hx hb dX5_divide_177 rfl (lv_at hl 0 rfl) ?_
  refine lv_iload hx hb dX5_divide_178 (lv_at hl 4 rfl) ?_
  refine m_cVv (TT := rT g) (As := [.int i5]) (rest := []) X hl.1 hw hS (kX5_halve hg h) mw_395 fX5_halve qM rfl rfl ⟨rfl, rfl, Nat.le_of_ble_eq_true rfl, Nat.le_of_ble_eq_true rfl⟩ rfl rfl (Nat.le_of_ble_eq_true rfl) dX5_divide_180 (fun σ4 H locs h hw hS => ?_)
  obtain ⟨a5, ea5⟩ : ∃ z : Int32, z = i6 + (-1 : Int32) := ⟨_, rfl⟩
  replace h := h a5 ea5
  refine lv_iinc (v := a5) (lv' := [(6, .int a5), (0, .ref (g.1 5000)), (1, .int x1), (2, .int x2), (3, .int x3), (5, .int i5)]) hx hb dX5_divide_183 hl (k := 5) rfl (by rw [ea5]; rfl) (by decide) rfl (fun ls hl => ?_)
  refine lv_goto (tgt := 122) hx hb dX5_divide_186 (by decide) ?_
  exact hN122 i5 a5 _ h H locs ls hw hS (lv_sub hl [1, 2, 3, 4, 5, 0] rfl)
def wbX5_divide_122 (x1 : Int32) (x2 : Int32) (x3 : Int32) (Q : RS → Prop) (N122 : Int32 → Int32 → RS → Prop) (i5 : Int32) (i6 : Int32) (σ : RS) : Prop :=
  (i6 < 0 →
    wpX5_divide_189 x1 x2 x3 Q σ) ∧
  (¬ i6 < 0 →
    wpX5_compareSizes x1 i5 σ (fun (r6 : Int32) (σ7 : RS) =>
      (r6 < 0 →
        wpX5_divide_177 x1 x2 x3 Q N122 i5 i6 σ7) ∧
      (¬ r6 < 0 →
        wpX5_sum x1 x1 i5 (-1 : Int32) σ7 (fun (σ9 : RS) =>
          (x3 = (-1 : Int32) →
            wpX5_divide_177 x1 x2 x3 Q N122 i5 i6 σ9) ∧
          (¬ x3 = (-1 : Int32) →
            vp_in (((440 : Int32) * x3) + (i6 / (28 : Int32))) 99880 ∧ (
            vp_in (((440 : Int32) * x3) + (i6 / (28 : Int32))) 99880 ∧ (
            wpX5_divide_177 x1 x2 x3 Q N122 i5 i6 (wL σ9 (((440 : Int32) * x3) + (i6 / (28 : Int32))) ((rL σ9 (((440 : Int32) * x3) + (i6 / (28 : Int32))).toNatClampNeg) ||| (jlshl (1 : Int64) (i6 - i6 / (28 : Int32) * (28 : Int32))))))))))))
set_option maxRecDepth 100000 in
set_option maxHeartbeats 4000000 in
theorem wX5_divide_122 {p : Program} {l : Launch} {e : Env} {s : State} {m : MethodId} {args : Array Value} {below : List Frame} {meth : Method} {c : Code} {D : va_G} {A : Nat → Prop} {g : mG} (hg : inj g) {x1 : Int32} {x2 : Int32} {x3 : Int32} (X : cx p m meth c s args cX5_divide 7 RX5 D (tyG g)) (hr : meth.sig.returnType = none) {Q : RS → Prop} : ∀ (n : Nat) (i5 : Int32) (i6 : Int32) (σ : RS), lq3 (wbX5_divide_122 x1 x2 x3 Q) n i5 i6 σ → cW p l e rmX5_divide s m args below meth c (MQ below (va_Qv Q (fun u t => wd D A (rT g u) t.heap) A) args s 0 0 A) D A (rT g σ) 122 7 [(0, .ref (g.1 5000)), (1, .int x1), (2, .int x2), (3, .int x3), (5, .int i5), (6, .int i6)] := by
  obtain ⟨hx, hb, hml, hown, hts, hK, hlk⟩ := id X
  intro n
  induction n with
  | zero =>
    intro i5 i6 σ h
    exact h.elim
  | succ n hN122 =>
    intro i5 i6 σ h H locs ls hw hS hl
    replace h : wbX5_divide_122 x1 x2 x3 Q (lq3 (wbX5_divide_122 x1 x2 x3 Q) n) i5 i6 σ := h
    unfold wbX5_divide_122 at h
    refine lv_iload hx hb dX5_divide_122 (lv_at hl 5 rfl) ?_
    refine lv_if_lt (tgt := 189) hx hb dX5_divide_124 (by decide) (fun hc => ?_) (fun hc => ?_)
    · replace h := h.1 hc
      exact wX5_divide_189 hg X hr _ h H locs ls hw hS (lv_sub hl [0, 1, 2, 3] rfl)
    · replace h := h.2 hc
      refine lv_aload_n hx hb dX5_divide_127 rfl (lv_at hl 0 rfl) ?_
      refine lv_iload_n hx hb dX5_divide_128 rfl (lv_at hl 1 rfl) ?_
      refine lv_iload hx hb dX5_divide_129 (lv_at hl 4 rfl) ?_
      refine m_cVi (TT := rT g) (As := [.int x1, .int i5]) (rest := []) X hl.1 hw hS (kX5_compareSizes hg h) mw_163 fX5_compareSizes qM rfl rfl ⟨rfl, rfl, Nat.le_of_ble_eq_true rfl, Nat.le_of_ble_eq_true rfl⟩ rfl rfl (Nat.le_of_ble_eq_true rfl) dX5_divide_131 (fun r6 σ7 H locs h hw hS => ?_)
      refine lv_if_lt (tgt := 177) hx hb dX5_divide_134 (by decide) (fun hc => ?_) (fun hc => ?_)
      · replace h := h.1 hc
        exact wX5_divide_177 hg X hr hN122 i5 i6 _ h H locs ls hw hS (lv_sub hl [0, 1, 2, 3, 4, 5] rfl)
      · replace h := h.2 hc
        refine lv_aload_n hx hb dX5_divide_137 rfl (lv_at hl 0 rfl) ?_
        refine lv_iload_n hx hb dX5_divide_138 rfl (lv_at hl 1 rfl) ?_
        refine lv_iload_n hx hb dX5_divide_139 rfl (lv_at hl 1 rfl) ?_
        refine lv_iload hx hb dX5_divide_140 (lv_at hl 4 rfl) ?_
        refine lv_iconst (v := (-1 : Int32)) hx hb dX5_divide_142 (by decide) ?_
        refine m_cVv (TT := rT g) (As := [.int x1, .int x1, .int i5, .int (-1 : Int32)]) (rest := []) X hl.1 hw hS (kX5_sum hg h) mw_155 fX5_sum qM rfl rfl ⟨rfl, rfl, Nat.le_of_ble_eq_true rfl, Nat.le_of_ble_eq_true rfl⟩ rfl rfl (Nat.le_of_ble_eq_true rfl) dX5_divide_143 (fun σ9 H locs h hw hS => ?_)
        refine lv_iload_n hx hb dX5_divide_146 rfl (lv_at hl 3 rfl) ?_
        refine lv_iconst (v := (-1 : Int32)) hx hb dX5_divide_147 (by decide) ?_
        refine lv_icmp_eq (tgt := 177) hx hb dX5_divide_148 (by decide) (fun hc => ?_) (fun hc => ?_)
        · replace h := h.1 hc
          exact wX5_divide_177 hg X hr hN122 i5 i6 _ h H locs ls hw hS (lv_sub hl [0, 1, 2, 3, 4, 5] rfl)
        · replace h := h.2 hc
          refine lv_aload_n hx hb dX5_divide_151 rfl (lv_at hl 0 rfl) ?_
          refine m_get (v := .ref (g.1 5001)) X hw qM rfl inA_X5 0 (by decide) mw_77 rfl dX5_divide_152 ?_
          refine lv_sipush (v := (440 : Int32)) hx hb dX5_divide_155 (by decide) ?_
          refine lv_iload_n hx hb dX5_divide_158 rfl (lv_at hl 3 rfl) ?_
          refine lv_imul hx hb dX5_divide_159 ?_
          refine lv_iload hx hb dX5_divide_160 (lv_at hl 5 rfl) ?_
          refine lv_bipush (v := (28 : Int32)) hx hb dX5_divide_162 (by decide) ?_
          refine lv_idiv hx hb dX5_divide_164 (by decide) ?_
          refine lv_iadd hx hb dX5_divide_165 ?_
          refine lv_dup2_11 hx hb dX5_divide_166 rfl rfl ?_
          obtain ⟨hi, h⟩ := h
          refine m_lald X hw qL 1 rfl hi dX5_divide_167 ?_
          refine lv_lconst (v := (1 : Int64)) hx hb dX5_divide_168 (by decide) ?_
          refine lv_iload hx hb dX5_divide_169 (lv_at hl 5 rfl) ?_
          refine lv_bipush (v := (28 : Int32)) hx hb dX5_divide_171 (by decide) ?_
          refine lv_irem hx hb dX5_divide_173 (by decide) ?_
          refine lv_lshl (v := jlshl (1 : Int64) (i6 - i6 / (28 : Int32) * (28 : Int32))) hx hb dX5_divide_174 rfl ?_
          refine lv_lor hx hb dX5_divide_175 ?_
          obtain ⟨hi, h⟩ := h
          refine m_last (T' := rT g (wL σ9 (((440 : Int32) * x3) + (i6 / (28 : Int32))) ((rL σ9 (((440 : Int32) * x3) + (i6 / (28 : Int32))).toNatClampNeg) ||| (jlshl (1 : Int64) (i6 - i6 / (28 : Int32) * (28 : Int32)))))) X hw hS qL 1 rfl hi (vL hg) dX5_divide_176 (fun H locs hw hS => ?_)
          exact wX5_divide_177 hg X hr hN122 i5 i6 _ h H locs ls hw hS (lv_sub hl [0, 1, 2, 3, 4, 5] rfl)
def wpX5_divide_85 (x1 : Int32) (x2 : Int32) (x3 : Int32) (Q : RS → Prop) (i4 : Int32) (σ : RS) : Prop :=
  (i4 < 0 →
    wpX5_divide_189 x1 x2 x3 Q σ) ∧
  (¬ i4 < 0 →
    wpX5_copy x2 (224 : Int32) σ (fun (σ11 : RS) =>
      vp_in (224 : Int32) 227 ∧ (
      wpX5_shiftUp (224 : Int32) i4 (wG σ11 (224 : Int32) (1 : Int32)) (fun (σ13 : RS) =>
        ∃ n, lq3 (wbX5_divide_122 x1 x2 x3 Q) n (224 : Int32) i4 σ13))))
set_option maxRecDepth 100000 in
set_option maxHeartbeats 4000000 in
theorem wX5_divide_85 {p : Program} {l : Launch} {e : Env} {s : State} {m : MethodId} {args : Array Value} {below : List Frame} {meth : Method} {c : Code} {D : va_G} {A : Nat → Prop} {g : mG} (hg : inj g) {x1 : Int32} {x2 : Int32} {x3 : Int32} (X : cx p m meth c s args cX5_divide 7 RX5 D (tyG g)) (hr : meth.sig.returnType = none) {Q : RS → Prop} : ∀ (i4 : Int32) (σ : RS), wpX5_divide_85 x1 x2 x3 Q i4 σ → cW p l e rmX5_divide s m args below meth c (MQ below (va_Qv Q (fun u t => wd D A (rT g u) t.heap) A) args s 0 0 A) D A (rT g σ) 85 7 [(0, .ref (g.1 5000)), (1, .int x1), (2, .int x2), (3, .int x3), (4, .int i4)] := by
  obtain ⟨hx, hb, hml, hown, hts, hK, hlk⟩ := id X
  intro i4 σ h H locs ls hw hS hl
  unfold wpX5_divide_85 at h
  refine lv_iload hx hb dX5_divide_85 (lv_at hl 4 rfl) ?_
  refine lv_if_lt (tgt := 189) hx hb dX5_divide_87 (by decide) (fun hc => ?_) (fun hc => ?_)
  · replace h := h.1 hc
    exact wX5_divide_189 hg X hr _ h H locs ls hw hS (lv_sub hl [0, 1, 2, 3] rfl)
  · replace h := h.2 hc
    refine lv_sipush (v := (224 : Int32)) hx hb dX5_divide_90 (by decide) ?_
    refine lv_istore (lv' := [(5, .int (224 : Int32)), (0, .ref (g.1 5000)), (1, .int x1), (2, .int x2), (3, .int x3), (4, .int i4)]) hx hb dX5_divide_93 hl (by decide) rfl (fun ls hl => ?_)
    refine lv_aload_n hx hb dX5_divide_95 rfl (lv_at hl 1 rfl) ?_
    refine lv_iload_n hx hb dX5_divide_96 rfl (lv_at hl 3 rfl) ?_
    refine lv_iload hx hb dX5_divide_97 (lv_at hl 0 rfl) ?_
    refine m_cVv (TT := rT g) (As := [.int x2, .int (224 : Int32)]) (rest := []) X hl.1 hw hS (kX5_copy hg h) mw_159 fX5_copy qM rfl rfl ⟨rfl, rfl, Nat.le_of_ble_eq_true rfl, Nat.le_of_ble_eq_true rfl⟩ rfl rfl (Nat.le_of_ble_eq_true rfl) dX5_divide_99 (fun σ11 H locs h hw hS => ?_)
    refine lv_aload_n hx hb dX5_divide_102 rfl (lv_at hl 1 rfl) ?_
    refine m_get (v := .ref (g.1 5003)) X hw qM rfl inA_X5 2 (by decide) mw_79 rfl dX5_divide_103 ?_
    refine lv_iload hx hb dX5_divide_106 (lv_at hl 0 rfl) ?_
    refine lv_iconst (v := (1 : Int32)) hx hb dX5_divide_108 (by decide) ?_
    obtain ⟨hi, h⟩ := h
    refine m_iast (T' := rT g (wG σ11 (224 : Int32) (1 : Int32))) X hw hS qG 0 rfl hi (vG hg) dX5_divide_109 (fun H locs hw hS => ?_)
    refine lv_aload_n hx hb dX5_divide_110 rfl (lv_at hl 1 rfl) ?_
    refine lv_iload hx hb dX5_divide_111 (lv_at hl 0 rfl) ?_
    refine lv_iload hx hb dX5_divide_113 (lv_at hl 5 rfl) ?_
    refine m_cVv (TT := rT g) (As := [.int (224 : Int32), .int i4]) (rest := []) X hl.1 hw hS (kX5_shiftUp hg h) mw_142 fX5_shiftUp qM rfl rfl ⟨rfl, rfl, Nat.le_of_ble_eq_true rfl, Nat.le_of_ble_eq_true rfl⟩ rfl rfl (Nat.le_of_ble_eq_true rfl) dX5_divide_115 (fun σ13 H locs h hw hS => ?_)
    refine lv_iload hx hb dX5_divide_118 (lv_at hl 5 rfl) ?_
    refine lv_istore (lv' := [(6, .int i4), (5, .int (224 : Int32)), (0, .ref (g.1 5000)), (1, .int x1), (2, .int x2), (3, .int x3), (4, .int i4)]) hx hb dX5_divide_120 hl (by decide) rfl (fun ls hl => ?_)
    obtain ⟨n9, h⟩ := h
    exact wX5_divide_122 hg X hr n9 (224 : Int32) i4 _ h H locs ls hw hS (lv_sub hl [2, 3, 4, 5, 1, 0] rfl)
def wpX5_divide_78 (x1 : Int32) (x2 : Int32) (x3 : Int32) (Q : RS → Prop) (i4 : Int32) (σ : RS) : Prop :=
  vp_in x3 227 ∧ (
  wpX5_divide_85 x1 x2 x3 Q i4 (wG σ x3 (1 : Int32)))
set_option maxRecDepth 100000 in
set_option maxHeartbeats 4000000 in
theorem wX5_divide_78 {p : Program} {l : Launch} {e : Env} {s : State} {m : MethodId} {args : Array Value} {below : List Frame} {meth : Method} {c : Code} {D : va_G} {A : Nat → Prop} {g : mG} (hg : inj g) {x1 : Int32} {x2 : Int32} {x3 : Int32} (X : cx p m meth c s args cX5_divide 7 RX5 D (tyG g)) (hr : meth.sig.returnType = none) {Q : RS → Prop} : ∀ (i4 : Int32) (σ : RS), wpX5_divide_78 x1 x2 x3 Q i4 σ → cW p l e rmX5_divide s m args below meth c (MQ below (va_Qv Q (fun u t => wd D A (rT g u) t.heap) A) args s 0 0 A) D A (rT g σ) 78 7 [(0, .ref (g.1 5000)), (1, .int x1), (2, .int x2), (3, .int x3), (4, .int i4)] := by
  obtain ⟨hx, hb, hml, hown, hts, hK, hlk⟩ := id X
  intro i4 σ h H locs ls hw hS hl
  unfold wpX5_divide_78 at h
  refine lv_aload_n hx hb dX5_divide_78 rfl (lv_at hl 0 rfl) ?_
  refine m_get (v := .ref (g.1 5003)) X hw qM rfl inA_X5 2 (by decide) mw_79 rfl dX5_divide_79 ?_
  refine lv_iload_n hx hb dX5_divide_82 rfl (lv_at hl 3 rfl) ?_
  refine lv_iconst (v := (1 : Int32)) hx hb dX5_divide_83 (by decide) ?_
  obtain ⟨hi, h⟩ := h
  refine m_iast (T' := rT g (wG σ x3 (1 : Int32))) X hw hS qG 0 rfl hi (vG hg) dX5_divide_84 (fun H locs hw hS => ?_)
  exact wX5_divide_85 hg X hr i4 _ h H locs ls hw hS (lv_sub hl [0, 1, 2, 3, 4] rfl)
def wbX5_divide_26 (x1 : Int32) (x2 : Int32) (x3 : Int32) (Q : RS → Prop) (N26 : Int32 → Int32 → RS → Prop) (i4 : Int32) (i5 : Int32) (σ : RS) : Prop :=
  ((i4 / (28 : Int32)) < i5 →
    (0 ≤ i4 →
      vp_in x3 227 ∧ (
      wpX5_divide_78 x1 x2 x3 Q i4 (wS σ x3 ((i4 / (28 : Int32)) + (1 : Int32))))) ∧
    (¬ 0 ≤ i4 →
      vp_in x3 227 ∧ (
      wpX5_divide_78 x1 x2 x3 Q i4 (wS σ x3 (0 : Int32))))) ∧
  (¬ (i4 / (28 : Int32)) < i5 →
    vp_in (((440 : Int32) * x3) + i5) 99880 ∧ (
    ∀ a14 : Int32, a14 = i5 + (1 : Int32) →
    N26 i4 a14 (wL σ (((440 : Int32) * x3) + i5) (0 : Int64))))
set_option maxRecDepth 100000 in
set_option maxHeartbeats 4000000 in
theorem wX5_divide_26 {p : Program} {l : Launch} {e : Env} {s : State} {m : MethodId} {args : Array Value} {below : List Frame} {meth : Method} {c : Code} {D : va_G} {A : Nat → Prop} {g : mG} (hg : inj g) {x1 : Int32} {x2 : Int32} {x3 : Int32} (X : cx p m meth c s args cX5_divide 7 RX5 D (tyG g)) (hr : meth.sig.returnType = none) {Q : RS → Prop} : ∀ (n : Nat) (i4 : Int32) (i5 : Int32) (σ : RS), lq3 (wbX5_divide_26 x1 x2 x3 Q) n i4 i5 σ → cW p l e rmX5_divide s m args below meth c (MQ below (va_Qv Q (fun u t => wd D A (rT g u) t.heap) A) args s 0 0 A) D A (rT g σ) 26 7 [(0, .ref (g.1 5000)), (1, .int x1), (2, .int x2), (3, .int x3), (4, .int i4), (5, .int i5)] := by
  obtain ⟨hx, hb, hml, hown, hts, hK, hlk⟩ := id X
  intro n
  induction n with
  | zero =>
    intro i4 i5 σ h
    exact h.elim
  | succ n hN26 =>
    intro i4 i5 σ h H locs ls hw hS hl
    replace h : wbX5_divide_26 x1 x2 x3 Q (lq3 (wbX5_divide_26 x1 x2 x3 Q) n) i4 i5 σ := h
    unfold wbX5_divide_26 at h
    refine lv_iload hx hb dX5_divide_26 (lv_at hl 5 rfl) ?_
    refine lv_iload hx hb dX5_divide_28 (lv_at hl 4 rfl) ?_
    refine lv_bipush (v := (28 : Int32)) hx hb dX5_divide_30 (by decide) ?_
    refine lv_idiv hx hb dX5_divide_32 (by decide) ?_
    refine lv_icmp_gt (tgt := 56) hx hb dX5_divide_33 (by decide) (fun hc => ?_) (fun hc => ?_)
    · replace h := h.1 hc
      refine lv_aload_n hx hb dX5_divide_56 rfl (lv_at hl 0 rfl) ?_
      refine m_get (v := .ref (g.1 5002)) X hw qM rfl inA_X5 1 (by decide) mw_78 rfl dX5_divide_57 ?_
      refine lv_iload_n hx hb dX5_divide_60 rfl (lv_at hl 3 rfl) ?_
      refine lv_iload hx hb dX5_divide_61 (lv_at hl 4 rfl) ?_
      refine lv_if_ge (tgt := 70) hx hb dX5_divide_63 (by decide) (fun hc => ?_) (fun hc => ?_)
      · replace h := h.1 hc
        refine lv_iload hx hb dX5_divide_70 (lv_at hl 4 rfl) ?_
        refine lv_bipush (v := (28 : Int32)) hx hb dX5_divide_72 (by decide) ?_
        refine lv_idiv hx hb dX5_divide_74 (by decide) ?_
        refine lv_iconst (v := (1 : Int32)) hx hb dX5_divide_75 (by decide) ?_
        refine lv_iadd hx hb dX5_divide_76 ?_
        obtain ⟨hi, h⟩ := h
        refine m_iast (T' := rT g (wS σ x3 ((i4 / (28 : Int32)) + (1 : Int32)))) X hw hS qS 0 rfl hi (vS hg) dX5_divide_77 (fun H locs hw hS => ?_)
        exact wX5_divide_78 hg X hr i4 _ h H locs ls hw hS (lv_sub hl [0, 1, 2, 3, 4] rfl)
      · replace h := h.2 hc
        refine lv_iconst (v := (0 : Int32)) hx hb dX5_divide_66 (by decide) ?_
        refine lv_goto (tgt := 77) hx hb dX5_divide_67 (by decide) ?_
        obtain ⟨hi, h⟩ := h
        refine m_iast (T' := rT g (wS σ x3 (0 : Int32))) X hw hS qS 0 rfl hi (vS hg) dX5_divide_77 (fun H locs hw hS => ?_)
        exact wX5_divide_78 hg X hr i4 _ h H locs ls hw hS (lv_sub hl [0, 1, 2, 3, 4] rfl)
    · replace h := h.2 hc
      refine lv_aload_n hx hb dX5_divide_36 rfl (lv_at hl 0 rfl) ?_
      refine m_get (v := .ref (g.1 5001)) X hw qM rfl inA_X5 0 (by decide) mw_77 rfl dX5_divide_37 ?_
      refine lv_sipush (v := (440 : Int32)) hx hb dX5_divide_40 (by decide) ?_
      refine lv_iload_n hx hb dX5_divide_43 rfl (lv_at hl 3 rfl) ?_
      refine lv_imul hx hb dX5_divide_44 ?_
      refine lv_iload hx hb dX5_divide_45 (lv_at hl 5 rfl) ?_
      refine lv_iadd hx hb dX5_divide_47 ?_
      refine lv_lconst (v := (0 : Int64)) hx hb dX5_divide_48 (by decide) ?_
      obtain ⟨hi, h⟩ := h
      refine m_last (T' := rT g (wL σ (((440 : Int32) * x3) + i5) (0 : Int64))) X hw hS qL 1 rfl hi (vL hg) dX5_divide_49 (fun H locs hw hS => ?_)
      obtain ⟨a14, ea14⟩ : ∃ z : Int32, z = i5 + (1 : Int32) := ⟨_, rfl⟩
      replace h := h a14 ea14
      refine lv_iinc (v := a14) (lv' := [(5, .int a14), (0, .ref (g.1 5000)), (1, .int x1), (2, .int x2), (3, .int x3), (4, .int i4)]) hx hb dX5_divide_50 hl (k := 5) rfl (by rw [ea14]; rfl) (by decide) rfl (fun ls hl => ?_)
      refine lv_goto (tgt := 26) hx hb dX5_divide_53 (by decide) ?_
      exact hN26 i4 a14 _ h H locs ls hw hS (lv_sub hl [1, 2, 3, 4, 5, 0] rfl)
def wpX5_divide_0 (x1 : Int32) (x2 : Int32) (x3 : Int32) (Q : RS → Prop) (σ : RS) : Prop :=
  wpX5_bitsOf x1 σ (fun (r15 : Int32) (σ16 : RS) =>
    wpX5_bitsOf x2 σ16 (fun (r17 : Int32) (σ18 : RS) =>
      ∀ a19 : Int32, a19 = r15 - r17 →
      (x3 = (-1 : Int32) →
        wpX5_divide_85 x1 x2 x3 Q a19 σ18) ∧
      (¬ x3 = (-1 : Int32) →
        wpX5_zero x3 σ18 (fun (σ21 : RS) =>
          ∃ n, lq3 (wbX5_divide_26 x1 x2 x3 Q) n a19 (0 : Int32) σ21))))
set_option maxRecDepth 100000 in
set_option maxHeartbeats 4000000 in
theorem wX5_divide_0 {p : Program} {l : Launch} {e : Env} {s : State} {m : MethodId} {args : Array Value} {below : List Frame} {meth : Method} {c : Code} {D : va_G} {A : Nat → Prop} {g : mG} (hg : inj g) {x1 : Int32} {x2 : Int32} {x3 : Int32} (X : cx p m meth c s args cX5_divide 7 RX5 D (tyG g)) (hr : meth.sig.returnType = none) {Q : RS → Prop} : ∀ (σ : RS), wpX5_divide_0 x1 x2 x3 Q σ → cW p l e rmX5_divide s m args below meth c (MQ below (va_Qv Q (fun u t => wd D A (rT g u) t.heap) A) args s 0 0 A) D A (rT g σ) 0 7 [(0, .ref (g.1 5000)), (1, .int x1), (2, .int x2), (3, .int x3)] := by
  obtain ⟨hx, hb, hml, hown, hts, hK, hlk⟩ := id X
  intro σ h H locs ls hw hS hl
  unfold wpX5_divide_0 at h
  refine lv_aload_n hx hb dX5_divide_0 rfl (lv_at hl 0 rfl) ?_
  refine lv_iload_n hx hb dX5_divide_1 rfl (lv_at hl 1 rfl) ?_
  refine m_cVi (TT := rT g) (As := [.int x1]) (rest := []) X hl.1 hw hS (kX5_bitsOf hg h) mw_235 fX5_bitsOf qM rfl rfl ⟨rfl, rfl, Nat.le_of_ble_eq_true rfl, Nat.le_of_ble_eq_true rfl⟩ rfl rfl (Nat.le_of_ble_eq_true rfl) dX5_divide_2 (fun r15 σ16 H locs h hw hS => ?_)
  refine lv_aload_n hx hb dX5_divide_5 rfl (lv_at hl 0 rfl) ?_
  refine lv_iload_n hx hb dX5_divide_6 rfl (lv_at hl 2 rfl) ?_
  refine m_cVi (TT := rT g) (As := [.int x2]) (rest := [.int r15]) X hl.1 hw hS (kX5_bitsOf hg h) mw_235 fX5_bitsOf qM rfl rfl ⟨rfl, rfl, Nat.le_of_ble_eq_true rfl, Nat.le_of_ble_eq_true rfl⟩ rfl rfl (Nat.le_of_ble_eq_true rfl) dX5_divide_7 (fun r17 σ18 H locs h hw hS => ?_)
  refine lv_isub hx hb dX5_divide_10 ?_
  refine lv_topi (fun a19 ea19 => ?_)
  replace h := h a19 ea19
  refine lv_istore (lv' := [(4, .int a19), (0, .ref (g.1 5000)), (1, .int x1), (2, .int x2), (3, .int x3)]) hx hb dX5_divide_11 hl (by decide) rfl (fun ls hl => ?_)
  refine lv_iload_n hx hb dX5_divide_13 rfl (lv_at hl 4 rfl) ?_
  refine lv_iconst (v := (-1 : Int32)) hx hb dX5_divide_14 (by decide) ?_
  refine lv_icmp_eq (tgt := 85) hx hb dX5_divide_15 (by decide) (fun hc => ?_) (fun hc => ?_)
  · replace h := h.1 hc
    exact wX5_divide_85 hg X hr a19 _ h H locs ls hw hS (lv_sub hl [1, 2, 3, 4, 0] rfl)
  · replace h := h.2 hc
    refine lv_aload_n hx hb dX5_divide_18 rfl (lv_at hl 1 rfl) ?_
    refine lv_iload_n hx hb dX5_divide_19 rfl (lv_at hl 4 rfl) ?_
    refine m_cVv (TT := rT g) (As := [.int x3]) (rest := []) X hl.1 hw hS (kX5_zero hg h) mw_122 fX5_zero qM rfl rfl ⟨rfl, rfl, Nat.le_of_ble_eq_true rfl, Nat.le_of_ble_eq_true rfl⟩ rfl rfl (Nat.le_of_ble_eq_true rfl) dX5_divide_20 (fun σ21 H locs h hw hS => ?_)
    refine lv_iconst (v := (0 : Int32)) hx hb dX5_divide_23 (by decide) ?_
    refine lv_istore (lv' := [(5, .int (0 : Int32)), (4, .int a19), (0, .ref (g.1 5000)), (1, .int x1), (2, .int x2), (3, .int x3)]) hx hb dX5_divide_24 hl (by decide) rfl (fun ls hl => ?_)
    obtain ⟨n9, h⟩ := h
    exact wX5_divide_26 hg X hr n9 a19 (0 : Int32) _ h H locs ls hw hS (lv_sub hl [2, 3, 4, 5, 1, 0] rfl)
def wpX5_divide (x1 : Int32) (x2 : Int32) (x3 : Int32) (σ : RS) (Q : RS → Prop) : Prop := wpX5_divide_0 x1 x2 x3 Q σ
theorem kX5_divide {l : Launch} {D : va_G} {A : Nat → Prop} {g : mG} (hg : inj g) {x1 : Int32} {x2 : Int32} {x3 : Int32} {σ : RS} {Q : RS → Prop} (h : wpX5_divide x1 x2 x3 σ Q) : Met l yX5_divide (Cond.code yX5_divide cX5_divide 7 none :: wsA) rmX5_divide (mPc D (tyG g) A (rT g σ) [.ref (g.1 5000), .int x1, .int x2, .int x3]) (va_Qv Q (fun u t => wd D A (rT g u) t.heap) A) 0 0 A :=
  m_met (by decide +kernel) (Nat.le_of_ble_eq_true rfl) (fun p e s m below meth c X hr H locs ls hw hS hl => wX5_divide_0 hg X hr σ h H locs ls hw hS (lv_sub hl [0, 1, 2, 3] rfl))
theorem fX5_divide : vfit yX5_divide cX5_divide 7 none 3 := ⟨mw_392, mw_393, mw_5, mw_394, by decide +kernel, by decide +kernel, by decide +kernel⟩
/-! BigPolysModel.common(II)V -/
def rmX5_common : Room := { frames := 3, cells := 0, slots := 0, locals := 85 }
def wpX5_common_91 (x1 : Int32) (x2 : Int32) (Q : RS → Prop) (N64 : Int32 → Int32 → RS → Prop) (i3 : Int32) (i4 : Int32) (σ : RS) : Prop :=
  N64 i4 i3 σ
set_option maxRecDepth 100000 in
set_option maxHeartbeats 4000000 in
theorem wX5_common_91 {p : Program} {l : Launch} {e : Env} {s : State} {m : MethodId} {args : Array Value} {below : List Frame} {meth : Method} {c : Code} {D : va_G} {A : Nat → Prop} {g : mG} (hg : inj g) {x1 : Int32} {x2 : Int32} (X : cx p m meth c s args cX5_common 6 RX5 D (tyG g)) (hr : meth.sig.returnType = none) {Q : RS → Prop} {N64 : Int32 → Int32 → RS → Prop} (hN64 : ∀ (i3 : Int32) (i4 : Int32) (σ : RS), N64 i3 i4 σ → cW p l e rmX5_common s m args below meth c (MQ below (va_Qv Q (fun u t => wd D A (rT g u) t.heap) A) args s 0 0 A) D A (rT g σ) 64 6 [(0, .ref (g.1 5000)), (1, .int x1), (2, .int x2), (3, .int i3), (4, .int i4)]) : ∀ (i3 : Int32) (i4 : Int32) (σ : RS), wpX5_common_91 x1 x2 Q N64 i3 i4 σ → cW p l e rmX5_common s m args below meth c (MQ below (va_Qv Q (fun u t => wd D A (rT g u) t.heap) A) args s 0 0 A) D A (rT g σ) 91 6 [(0, .ref (g.1 5000)), (1, .int x1), (2, .int x2), (3, .int i3), (4, .int i4)] := by
  obtain ⟨hx, hb, hml, hown, hts, hK, hlk⟩ := id X
  intro i3 i4 σ h H locs ls hw hS hl
  unfold wpX5_common_91 at h
  refine lv_iload_n hx hb dX5_common_91 rfl (lv_at hl 3 rfl) ?_
  refine lv_istore (lv' := [(5, .int i3), (0, .ref (g.1 5000)), (1, .int x1), (2, .int x2), (3, .int i3), (4, .int i4)]) hx hb dX5_common_92 hl (by decide) rfl (fun ls hl => ?_)
  refine lv_iload hx hb dX5_common_94 (lv_at hl 5 rfl) ?_
  refine lv_istore_n (lv' := [(3, .int i4), (5, .int i3), (0, .ref (g.1 5000)), (1, .int x1), (2, .int x2), (4, .int i4)]) hx hb dX5_common_96 rfl hl (by decide) rfl (fun ls hl => ?_)
  refine lv_iload hx hb dX5_common_97 (lv_at hl 1 rfl) ?_
  refine lv_istore (lv' := [(4, .int i3), (3, .int i4), (5, .int i3), (0, .ref (g.1 5000)), (1, .int x1), (2, .int x2)]) hx hb dX5_common_99 hl (by decide) rfl (fun ls hl => ?_)
  refine lv_goto (tgt := 64) hx hb dX5_common_101 (by decide) ?_
  exact hN64 i4 i3 _ h H locs ls hw hS (lv_sub hl [3, 4, 5, 1, 0] rfl)
def wbX5_common_64 (x1 : Int32) (x2 : Int32) (Q : RS → Prop) (N64 : Int32 → Int32 → RS → Prop) (i3 : Int32) (i4 : Int32) (σ : RS) : Prop :=
  vp_in i4 227 ∧ (
  ((rS σ i4.toNatClampNeg) ≤ 0 →
    wpX5_copy i3 x1 σ (fun (σ2 : RS) =>
      Q σ2)) ∧
  (¬ (rS σ i4.toNatClampNeg) ≤ 0 →
    vp_in i3 227 ∧ (
    ((rS σ i3.toNatClampNeg) ≤ 0 →
      wpX5_common_91 x1 x2 Q N64 i3 i4 σ) ∧
    (¬ (rS σ i3.toNatClampNeg) ≤ 0 →
      wpX5_divide i3 i4 (-1 : Int32) σ (fun (σ4 : RS) =>
        wpX5_common_91 x1 x2 Q N64 i3 i4 σ4)))))
set_option maxRecDepth 100000 in
set_option maxHeartbeats 4000000 in
theorem wX5_common_64 {p : Program} {l : Launch} {e : Env} {s : State} {m : MethodId} {args : Array Value} {below : List Frame} {meth : Method} {c : Code} {D : va_G} {A : Nat → Prop} {g : mG} (hg : inj g) {x1 : Int32} {x2 : Int32} (X : cx p m meth c s args cX5_common 6 RX5 D (tyG g)) (hr : meth.sig.returnType = none) {Q : RS → Prop} : ∀ (n : Nat) (i3 : Int32) (i4 : Int32) (σ : RS), lq3 (wbX5_common_64 x1 x2 Q) n i3 i4 σ → cW p l e rmX5_common s m args below meth c (MQ below (va_Qv Q (fun u t => wd D A (rT g u) t.heap) A) args s 0 0 A) D A (rT g σ) 64 6 [(0, .ref (g.1 5000)), (1, .int x1), (2, .int x2), (3, .int i3), (4, .int i4)] := by
  obtain ⟨hx, hb, hml, hown, hts, hK, hlk⟩ := id X
  intro n
  induction n with
  | zero =>
    intro i3 i4 σ h
    exact h.elim
  | succ n hN64 =>
    intro i3 i4 σ h H locs ls hw hS hl
    replace h : wbX5_common_64 x1 x2 Q (lq3 (wbX5_common_64 x1 x2 Q) n) i3 i4 σ := h
    unfold wbX5_common_64 at h
    refine lv_aload_n hx hb dX5_common_64 rfl (lv_at hl 0 rfl) ?_
    refine m_get (v := .ref (g.1 5002)) X hw qM rfl inA_X5 1 (by decide) mw_78 rfl dX5_common_65 ?_
    refine lv_iload hx hb dX5_common_68 (lv_at hl 4 rfl) ?_
    obtain ⟨hi, h⟩ := h
    refine m_iald X hw qS 0 rfl hi dX5_common_70 ?_
    refine lv_if_le (tgt := 104) hx hb dX5_common_71 (by decide) (fun hc => ?_) (fun hc => ?_)
    · replace h := h.1 hc
      refine lv_aload_n hx hb dX5_common_104 rfl (lv_at hl 0 rfl) ?_
      refine lv_iload_n hx hb dX5_common_105 rfl (lv_at hl 3 rfl) ?_
      refine lv_iload_n hx hb dX5_common_106 rfl (lv_at hl 1 rfl) ?_
      refine m_cVv (TT := rT g) (As := [.int i3, .int x1]) (rest := []) X hl.1 hw hS (kX5_copy hg h) mw_159 fX5_copy qM rfl rfl ⟨rfl, rfl, Nat.le_of_ble_eq_true rfl, Nat.le_of_ble_eq_true rfl⟩ rfl rfl (Nat.le_of_ble_eq_true rfl) dX5_common_107 (fun σ2 H locs h hw hS => ?_)
      exact m_vret X hr hw hS h dX5_common_110
    · replace h := h.2 hc
      refine lv_aload_n hx hb dX5_common_74 rfl (lv_at hl 0 rfl) ?_
      refine m_get (v := .ref (g.1 5002)) X hw qM rfl inA_X5 1 (by decide) mw_78 rfl dX5_common_75 ?_
      refine lv_iload_n hx hb dX5_common_78 rfl (lv_at hl 3 rfl) ?_
      obtain ⟨hi, h⟩ := h
      refine m_iald X hw qS 0 rfl hi dX5_common_79 ?_
      refine lv_if_le (tgt := 91) hx hb dX5_common_80 (by decide) (fun hc => ?_) (fun hc => ?_)
      · replace h := h.1 hc
        exact wX5_common_91 hg X hr hN64 i3 i4 _ h H locs ls hw hS (lv_sub hl [0, 1, 2, 3, 4] rfl)
      · replace h := h.2 hc
        refine lv_aload_n hx hb dX5_common_83 rfl (lv_at hl 0 rfl) ?_
        refine lv_iload_n hx hb dX5_common_84 rfl (lv_at hl 3 rfl) ?_
        refine lv_iload hx hb dX5_common_85 (lv_at hl 4 rfl) ?_
        refine lv_iconst (v := (-1 : Int32)) hx hb dX5_common_87 (by decide) ?_
        refine m_cVv (TT := rT g) (As := [.int i3, .int i4, .int (-1 : Int32)]) (rest := []) X hl.1 hw hS (kX5_divide hg h) mw_391 fX5_divide qM rfl rfl ⟨rfl, rfl, Nat.le_of_ble_eq_true rfl, Nat.le_of_ble_eq_true rfl⟩ rfl rfl (Nat.le_of_ble_eq_true rfl) dX5_common_88 (fun σ4 H locs h hw hS => ?_)
        exact wX5_common_91 hg X hr hN64 i3 i4 _ h H locs ls hw hS (lv_sub hl [0, 1, 2, 3, 4] rfl)
def wpX5_common_42 (x1 : Int32) (x2 : Int32) (Q : RS → Prop) (i3 : Int32) (i4 : Int32) (σ : RS) : Prop :=
  vp_in i4 227 ∧ (
  ((rS σ i4.toNatClampNeg) ≤ 0 →
    vp_in i4 227 ∧ (
    ∃ n, lq3 (wbX5_common_64 x1 x2 Q) n i3 i4 (wG σ i4 (0 : Int32)))) ∧
  (¬ (rS σ i4.toNatClampNeg) ≤ 0 →
    vp_in i4 227 ∧ (
    ∃ n, lq3 (wbX5_common_64 x1 x2 Q) n i3 i4 (wG σ i4 (1 : Int32)))))
set_option maxRecDepth 100000 in
set_option maxHeartbeats 4000000 in
theorem wX5_common_42 {p : Program} {l : Launch} {e : Env} {s : State} {m : MethodId} {args : Array Value} {below : List Frame} {meth : Method} {c : Code} {D : va_G} {A : Nat → Prop} {g : mG} (hg : inj g) {x1 : Int32} {x2 : Int32} (X : cx p m meth c s args cX5_common 6 RX5 D (tyG g)) (hr : meth.sig.returnType = none) {Q : RS → Prop} : ∀ (i3 : Int32) (i4 : Int32) (σ : RS), wpX5_common_42 x1 x2 Q i3 i4 σ → cW p l e rmX5_common s m args below meth c (MQ below (va_Qv Q (fun u t => wd D A (rT g u) t.heap) A) args s 0 0 A) D A (rT g σ) 42 6 [(0, .ref (g.1 5000)), (1, .int x1), (2, .int x2), (3, .int i3), (4, .int i4)] := by
  obtain ⟨hx, hb, hml, hown, hts, hK, hlk⟩ := id X
  intro i3 i4 σ h H locs ls hw hS hl
  unfold wpX5_common_42 at h
  refine lv_aload_n hx hb dX5_common_42 rfl (lv_at hl 0 rfl) ?_
  refine m_get (v := .ref (g.1 5003)) X hw qM rfl inA_X5 2 (by decide) mw_79 rfl dX5_common_43 ?_
  refine lv_iload hx hb dX5_common_46 (lv_at hl 4 rfl) ?_
  refine lv_aload_n hx hb dX5_common_48 rfl (lv_at hl 0 rfl) ?_
  refine m_get (v := .ref (g.1 5002)) X hw qM rfl inA_X5 1 (by decide) mw_78 rfl dX5_common_49 ?_
  refine lv_iload hx hb dX5_common_52 (lv_at hl 4 rfl) ?_
  obtain ⟨hi, h⟩ := h
  refine m_iald X hw qS 0 rfl hi dX5_common_54 ?_
  refine lv_if_le (tgt := 62) hx hb dX5_common_55 (by decide) (fun hc => ?_) (fun hc => ?_)
  · replace h := h.1 hc
    refine lv_iconst (v := (0 : Int32)) hx hb dX5_common_62 (by decide) ?_
    obtain ⟨hi, h⟩ := h
    refine m_iast (T' := rT g (wG σ i4 (0 : Int32))) X hw hS qG 0 rfl hi (vG hg) dX5_common_63 (fun H locs hw hS => ?_)
    obtain ⟨n9, h⟩ := h
    exact wX5_common_64 hg X hr n9 i3 i4 _ h H locs ls hw hS (lv_sub hl [0, 1, 2, 3, 4] rfl)
  · replace h := h.2 hc
    refine lv_iconst (v := (1 : Int32)) hx hb dX5_common_58 (by decide) ?_
    refine lv_goto (tgt := 63) hx hb dX5_common_59 (by decide) ?_
    obtain ⟨hi, h⟩ := h
    refine m_iast (T' := rT g (wG σ i4 (1 : Int32))) X hw hS qG 0 rfl hi (vG hg) dX5_common_63 (fun H locs hw hS => ?_)
    obtain ⟨n9, h⟩ := h
    exact wX5_common_64 hg X hr n9 i3 i4 _ h H locs ls hw hS (lv_sub hl [0, 1, 2, 3, 4] rfl)
def wpX5_common_0 (x1 : Int32) (x2 : Int32) (Q : RS → Prop) (σ : RS) : Prop :=
  wpX5_copy x1 (225 : Int32) σ (fun (σ6 : RS) =>
    wpX5_copy x2 (226 : Int32) σ6 (fun (σ8 : RS) =>
      vp_in (225 : Int32) 227 ∧ (
      ((rS σ8 (225 : Int32).toNatClampNeg) ≤ 0 →
        vp_in (225 : Int32) 227 ∧ (
        wpX5_common_42 x1 x2 Q (225 : Int32) (226 : Int32) (wG σ8 (225 : Int32) (0 : Int32)))) ∧
      (¬ (rS σ8 (225 : Int32).toNatClampNeg) ≤ 0 →
        vp_in (225 : Int32) 227 ∧ (
        wpX5_common_42 x1 x2 Q (225 : Int32) (226 : Int32) (wG σ8 (225 : Int32) (1 : Int32)))))))
set_option maxRecDepth 100000 in
set_option maxHeartbeats 4000000 in
theorem wX5_common_0 {p : Program} {l : Launch} {e : Env} {s : State} {m : MethodId} {args : Array Value} {below : List Frame} {meth : Method} {c : Code} {D : va_G} {A : Nat → Prop} {g : mG} (hg : inj g) {x1 : Int32} {x2 : Int32} (X : cx p m meth c s args cX5_common 6 RX5 D (tyG g)) (hr : meth.sig.returnType = none) {Q : RS → Prop} : ∀ (σ : RS), wpX5_common_0 x1 x2 Q σ → cW p l e rmX5_common s m args below meth c (MQ below (va_Qv Q (fun u t => wd D A (rT g u) t.heap) A) args s 0 0 A) D A (rT g σ) 0 6 [(0, .ref (g.1 5000)), (1, .int x1), (2, .int x2)] := by
  obtain ⟨hx, hb, hml, hown, hts, hK, hlk⟩ := id X
  intro σ h H locs ls hw hS hl
  unfold wpX5_common_0 at h
  refine lv_sipush (v := (225 : Int32)) hx hb dX5_common_0 (by decide) ?_
  refine lv_istore_n (lv' := [(3, .int (225 : Int32)), (0, .ref (g.1 5000)), (1, .int x1), (2, .int x2)]) hx hb dX5_common_3 rfl hl (by decide) rfl (fun ls hl => ?_)
  refine lv_sipush (v := (226 : Int32)) hx hb dX5_common_4 (by decide) ?_
  refine lv_istore (lv' := [(4, .int (226 : Int32)), (3, .int (225 : Int32)), (0, .ref (g.1 5000)), (1, .int x1), (2, .int x2)]) hx hb dX5_common_7 hl (by decide) rfl (fun ls hl => ?_)
  refine lv_aload_n hx hb dX5_common_9 rfl (lv_at hl 2 rfl) ?_
  refine lv_iload_n hx hb dX5_common_10 rfl (lv_at hl 3 rfl) ?_
  refine lv_iload_n hx hb dX5_common_11 rfl (lv_at hl 1 rfl) ?_
  refine m_cVv (TT := rT g) (As := [.int x1, .int (225 : Int32)]) (rest := []) X hl.1 hw hS (kX5_copy hg h) mw_159 fX5_copy qM rfl rfl ⟨rfl, rfl, Nat.le_of_ble_eq_true rfl, Nat.le_of_ble_eq_true rfl⟩ rfl rfl (Nat.le_of_ble_eq_true rfl) dX5_common_12 (fun σ6 H locs h hw hS => ?_)
  refine lv_aload_n hx hb dX5_common_15 rfl (lv_at hl 2 rfl) ?_
  refine lv_iload_n hx hb dX5_common_16 rfl (lv_at hl 4 rfl) ?_
  refine lv_iload hx hb dX5_common_17 (lv_at hl 0 rfl) ?_
  refine m_cVv (TT := rT g) (As := [.int x2, .int (226 : Int32)]) (rest := []) X hl.1 hw hS (kX5_copy hg h) mw_159 fX5_copy qM rfl rfl ⟨rfl, rfl, Nat.le_of_ble_eq_true rfl, Nat.le_of_ble_eq_true rfl⟩ rfl rfl (Nat.le_of_ble_eq_true rfl) dX5_common_19 (fun σ8 H locs h hw hS => ?_)
  refine lv_aload_n hx hb dX5_common_22 rfl (lv_at hl 2 rfl) ?_
  refine m_get (v := .ref (g.1 5003)) X hw qM rfl inA_X5 2 (by decide) mw_79 rfl dX5_common_23 ?_
  refine lv_iload_n hx hb dX5_common_26 rfl (lv_at hl 1 rfl) ?_
  refine lv_aload_n hx hb dX5_common_27 rfl (lv_at hl 2 rfl) ?_
  refine m_get (v := .ref (g.1 5002)) X hw qM rfl inA_X5 1 (by decide) mw_78 rfl dX5_common_28 ?_
  refine lv_iload_n hx hb dX5_common_31 rfl (lv_at hl 1 rfl) ?_
  obtain ⟨hi, h⟩ := h
  refine m_iald X hw qS 0 rfl hi dX5_common_32 ?_
  refine lv_if_le (tgt := 40) hx hb dX5_common_33 (by decide) (fun hc => ?_) (fun hc => ?_)
  · replace h := h.1 hc
    refine lv_iconst (v := (0 : Int32)) hx hb dX5_common_40 (by decide) ?_
    obtain ⟨hi, h⟩ := h
    refine m_iast (T' := rT g (wG σ8 (225 : Int32) (0 : Int32))) X hw hS qG 0 rfl hi (vG hg) dX5_common_41 (fun H locs hw hS => ?_)
    exact wX5_common_42 hg X hr (225 : Int32) (226 : Int32) _ h H locs ls hw hS (lv_sub hl [2, 3, 4, 1, 0] rfl)
  · replace h := h.2 hc
    refine lv_iconst (v := (1 : Int32)) hx hb dX5_common_36 (by decide) ?_
    refine lv_goto (tgt := 41) hx hb dX5_common_37 (by decide) ?_
    obtain ⟨hi, h⟩ := h
    refine m_iast (T' := rT g (wG σ8 (225 : Int32) (1 : Int32))) X hw hS qG 0 rfl hi (vG hg) dX5_common_41 (fun H locs hw hS => ?_)
    exact wX5_common_42 hg X hr (225 : Int32) (226 : Int32) _ h H locs ls hw hS (lv_sub hl [2, 3, 4, 1, 0] rfl)
def wpX5_common (x1 : Int32) (x2 : Int32) (σ : RS) (Q : RS → Prop) : Prop := wpX5_common_0 x1 x2 Q σ
theorem kX5_common {l : Launch} {D : va_G} {A : Nat → Prop} {g : mG} (hg : inj g) {x1 : Int32} {x2 : Int32} {σ : RS} {Q : RS → Prop} (h : wpX5_common x1 x2 σ Q) : Met l yX5_common (Cond.code yX5_common cX5_common 6 none :: wsA) rmX5_common (mPc D (tyG g) A (rT g σ) [.ref (g.1 5000), .int x1, .int x2]) (va_Qv Q (fun u t => wd D A (rT g u) t.heap) A) 0 0 A :=
  m_met (by decide +kernel) (Nat.le_of_ble_eq_true rfl) (fun p e s m below meth c X hr H locs ls hw hS hl => wX5_common_0 hg X hr σ h H locs ls hw hS (lv_sub hl [0, 1, 2] rfl))
theorem fX5_common : vfit yX5_common cX5_common 6 none 2 := ⟨mw_477, mw_478, mw_5, mw_479, by decide +kernel, by decide +kernel, by decide +kernel⟩
