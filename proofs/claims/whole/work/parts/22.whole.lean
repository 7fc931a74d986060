/-! BigPolys$Whole.scale(J)V -/
def rmX3_scale : Room := { frames := 1, cells := 0, slots := 0, locals := 20 }
def wpX3_scale_136 (w0 : Nat) (y1 : Int64) (Q : CS → Prop) (σ : CS) : Prop :=
  (0 ≤ (lg_cmp y1 (0 : Int64)) →
    Q (sG σ w0 (cG σ w0))) ∧
  (¬ 0 ≤ (lg_cmp y1 (0 : Int64)) →
    Q (sG σ w0 (-(cG σ w0))))
set_option maxRecDepth 100000 in
set_option maxHeartbeats 4000000 in
theorem wX3_scale_136 {p : Program} {l : Launch} {e : Env} {s : State} {m : MethodId} {args : Array Value} {below : List Frame} {meth : Method} {c : Code} {D : va_G} {A : Nat → Prop} {g : mG} (hg : inj g) {w0 : Nat} {y1 : Int64} (hw0 : okW w0) (X : cx p m meth c s args cX3_scale 10 RX3 D (tyG g)) (hr : meth.sig.returnType = none) {Q : CS → Prop} : ∀ (σ : CS), wpX3_scale_136 w0 y1 Q σ → cW p l e rmX3_scale s m args below meth c (MQ below (va_Qv Q (fun u t => wd D A (cT g u) t.heap) A) args s 0 0 A) D A (cT g σ) 136 10 [(0, .ref (g.1 (4 * w0))), (1, .long y1)] := by
  obtain ⟨hx, hb, hml, hown, hts, hK, hlk⟩ := id X
  intro σ h H locs ls hw hS hl
  unfold wpX3_scale_136 at h
  refine lv_aload_n hx hb dX3_scale_136 rfl (lv_at hl 0 rfl) ?_
  refine lv_lload_n hx hb dX3_scale_137 rfl (lv_at hl 1 rfl) ?_
  refine lv_lconst (v := (0 : Int64)) hx hb dX3_scale_138 (by decide) ?_
  refine W.lcmp hx hb dX3_scale_139 ?_
  refine lv_if_ge (tgt := 151) hx hb dX3_scale_140 (by decide) (fun hc => ?_) (fun hc => ?_)
  · replace h := h.1 hc
    refine lv_aload_n hx hb dX3_scale_151 rfl (lv_at hl 0 rfl) ?_
    refine m_get (v := .int (cG σ w0)) X hw (tW hw0) rfl inA_X3 2 (by decide) mw_101 rfl dX3_scale_152 ?_
    refine m_put (T' := cT g (sG σ w0 (cG σ w0))) X hw hS (tW hw0) rfl inA_X3 tyX3 tyX3_ok nmX3 2 (by decide) mw_101 rfl pd_I (Nat.le_of_ble_eq_true rfl) (uG hg) dX3_scale_155 (fun H locs hw hS => ?_)
    exact m_vret X hr hw hS h dX3_scale_158
  · replace h := h.2 hc
    refine lv_aload_n hx hb dX3_scale_143 rfl (lv_at hl 0 rfl) ?_
    refine m_get (v := .int (cG σ w0)) X hw (tW hw0) rfl inA_X3 2 (by decide) mw_101 rfl dX3_scale_144 ?_
    refine lv_ineg hx hb dX3_scale_147 ?_
    refine lv_goto (tgt := 155) hx hb dX3_scale_148 (by decide) ?_
    refine m_put (T' := cT g (sG σ w0 (-(cG σ w0)))) X hw hS (tW hw0) rfl inA_X3 tyX3 tyX3_ok nmX3 2 (by decide) mw_101 rfl pd_I (Nat.le_of_ble_eq_true rfl) (uG hg) dX3_scale_155 (fun H locs hw hS => ?_)
    exact m_vret X hr hw hS h dX3_scale_158
def wbX3_scale_81 (w0 : Nat) (y1 : Int64) (Q : CS → Prop) (N81 : Int64 → CS → Prop) (l5 : Int64) (σ : CS) : Prop :=
  ((lg_cmp l5 (0 : Int64)) = 0 →
    wpX3_scale_136 w0 y1 Q σ) ∧
  (¬ (lg_cmp l5 (0 : Int64)) = 0 →
    ((Int32.ofNat (capW w0)) ≤ (cS σ w0) →
      wpX3_scale_136 w0 y1 Q σ) ∧
    (¬ (Int32.ofNat (capW w0)) ≤ (cS σ w0) →
      vp_in (cS σ w0) (capW w0) ∧ (
      ∀ b1 : Int64, b1 = jlushr l5 (31 : Int32) →
      N81 b1 (sS (sFi σ w0 (cS σ w0) ((l5 &&& (2147483647 : Int64)).toInt32)) w0 ((cS (sFi σ w0 (cS σ w0) ((l5 &&& (2147483647 : Int64)).toInt32)) w0) + (1 : Int32))))))
set_option maxRecDepth 100000 in
set_option maxHeartbeats 4000000 in
theorem wX3_scale_81 {p : Program} {l : Launch} {e : Env} {s : State} {m : MethodId} {args : Array Value} {below : List Frame} {meth : Method} {c : Code} {D : va_G} {A : Nat → Prop} {g : mG} (hg : inj g) {w0 : Nat} {y1 : Int64} (hw0 : okW w0) (X : cx p m meth c s args cX3_scale 10 RX3 D (tyG g)) (hr : meth.sig.returnType = none) {Q : CS → Prop} : ∀ (n : Nat) (l5 : Int64) (σ : CS), lq2 (wbX3_scale_81 w0 y1 Q) n l5 σ → cW p l e rmX3_scale s m args below meth c (MQ below (va_Qv Q (fun u t => wd D A (cT g u) t.heap) A) args s 0 0 A) D A (cT g σ) 81 10 [(0, .ref (g.1 (4 * w0))), (1, .long y1), (5, .long l5)] := by
  obtain ⟨hx, hb, hml, hown, hts, hK, hlk⟩ := id X
  intro n
  induction n with
  | zero =>
    intro l5 σ h
    exact h.elim
  | succ n hN81 =>
    intro l5 σ h H locs ls hw hS hl
    replace h : wbX3_scale_81 w0 y1 Q (lq2 (wbX3_scale_81 w0 y1 Q) n) l5 σ := h
    unfold wbX3_scale_81 at h
    refine lv_lload hx hb dX3_scale_81 (lv_at hl 2 rfl) ?_
    refine lv_lconst (v := (0 : Int64)) hx hb dX3_scale_83 (by decide) ?_
    refine W.lcmp hx hb dX3_scale_84 ?_
    refine lv_if_eq (tgt := 136) hx hb dX3_scale_85 (by decide) (fun hc => ?_) (fun hc => ?_)
    · replace h := h.1 hc
      exact wX3_scale_136 hg hw0 X hr _ h H locs ls hw hS (lv_sub hl [0, 1] rfl)
    · replace h := h.2 hc
      refine lv_aload_n hx hb dX3_scale_88 rfl (lv_at hl 0 rfl) ?_
      refine m_get (v := .int (cS σ w0)) X hw (tW hw0) rfl inA_X3 1 (by decide) mw_100 rfl dX3_scale_89 ?_
      refine lv_aload_n hx hb dX3_scale_92 rfl (lv_at hl 0 rfl) ?_
      refine m_get (v := .ref (g.1 (4 * w0 + 1))) X hw (tW hw0) rfl inA_X3 0 (by decide) mw_36 rfl dX3_scale_93 ?_
      refine m_alen (v := Int32.ofNat (capW w0)) X hw (tD hw0) 0 rfl rfl dX3_scale_96 ?_
      refine lv_icmp_ge (tgt := 136) hx hb dX3_scale_97 (by decide) (fun hc => ?_) (fun hc => ?_)
      · replace h := h.1 hc
        exact wX3_scale_136 hg hw0 X hr _ h H locs ls hw hS (lv_sub hl [0, 1] rfl)
      · replace h := h.2 hc
        refine lv_aload_n hx hb dX3_scale_100 rfl (lv_at hl 0 rfl) ?_
        refine m_get (v := .ref (g.1 (4 * w0 + 1))) X hw (tW hw0) rfl inA_X3 0 (by decide) mw_36 rfl dX3_scale_101 ?_
        refine lv_aload_n hx hb dX3_scale_104 rfl (lv_at hl 0 rfl) ?_
        refine m_get (v := .int (cS σ w0)) X hw (tW hw0) rfl inA_X3 1 (by decide) mw_100 rfl dX3_scale_105 ?_
        refine lv_lload hx hb dX3_scale_108 (lv_at hl 2 rfl) ?_
        refine lv_ldc2 (v := (2147483647 : Int64)) hx hb hown (hts _ mw_259) dX3_scale_110 ?_
        refine lv_land hx hb dX3_scale_113 ?_
        refine lv_l2i (v := (l5 &&& (2147483647 : Int64)).toInt32) hx hb dX3_scale_114 rfl ?_
        obtain ⟨hi, h⟩ := h
        refine m_iast (T' := cT g (sFi σ w0 (cS σ w0) ((l5 &&& (2147483647 : Int64)).toInt32))) X hw hS (tD hw0) 0 rfl hi (uF hg) dX3_scale_115 (fun H locs hw hS => ?_)
        refine lv_aload_n hx hb dX3_scale_116 rfl (lv_at hl 0 rfl) ?_
        refine lv_dup hx hb dX3_scale_117 rfl ?_
        refine m_get (v := .int (cS (sFi σ w0 (cS σ w0) ((l5 &&& (2147483647 : Int64)).toInt32)) w0)) X hw (tW hw0) rfl inA_X3 1 (by decide) mw_100 rfl dX3_scale_118 ?_
        refine lv_iconst (v := (1 : Int32)) hx hb dX3_scale_121 (by decide) ?_
        refine lv_iadd hx hb dX3_scale_122 ?_
        refine m_put (T' := cT g (sS (sFi σ w0 (cS σ w0) ((l5 &&& (2147483647 : Int64)).toInt32)) w0 ((cS (sFi σ w0 (cS σ w0) ((l5 &&& (2147483647 : Int64)).toInt32)) w0) + (1 : Int32)))) X hw hS (tW hw0) rfl inA_X3 tyX3 tyX3_ok nmX3 1 (by decide) mw_100 rfl pd_I (Nat.le_of_ble_eq_true rfl) (uS hg) dX3_scale_123 (fun H locs hw hS => ?_)
        refine lv_lload hx hb dX3_scale_126 (lv_at hl 2 rfl) ?_
        refine lv_bipush (v := (31 : Int32)) hx hb dX3_scale_128 (by decide) ?_
        refine lv_lushr (v := jlushr l5 (31 : Int32)) hx hb dX3_scale_130 rfl ?_
        refine lv_topl (fun b1 eb1 => ?_)
        replace h := h b1 eb1
        refine lv_lstore (lv' := [(5, .long b1), (0, .ref (g.1 (4 * w0))), (1, .long y1)]) hx hb dX3_scale_131 hl (by decide) rfl (fun ls hl => ?_)
        refine lv_goto (tgt := 81) hx hb dX3_scale_133 (by decide) ?_
        exact hN81 b1 _ h H locs ls hw hS (lv_sub hl [1, 2, 0] rfl)
def wbX3_scale_30 (w0 : Nat) (y1 : Int64) (Q : CS → Prop) (N30 : Int64 → Int64 → Int32 → CS → Prop) (l3 : Int64) (l5 : Int64) (i7 : Int32) (σ : CS) : Prop :=
  ((cS σ w0) ≤ i7 →
    ∃ n, lq2 (wbX3_scale_81 w0 y1 Q) n l5 σ) ∧
  (¬ (cS σ w0) ≤ i7 →
    vp_in i7 (capW w0) ∧ (
    ∀ b2 : Int64, b2 = (((cF σ w0 i7.toNatClampNeg).toInt64) * l3) + l5 →
    vp_in i7 (capW w0) ∧ (
    ∀ b3 : Int64, b3 = jlushr b2 (31 : Int32) →
    ∀ a4 : Int32, a4 = i7 + (1 : Int32) →
    N30 l3 b3 a4 (sFi σ w0 i7 ((b2 &&& (2147483647 : Int64)).toInt32)))))
set_option maxRecDepth 100000 in
set_option maxHeartbeats 4000000 in
theorem wX3_scale_30 {p : Program} {l : Launch} {e : Env} {s : State} {m : MethodId} {args : Array Value} {below : List Frame} {meth : Method} {c : Code} {D : va_G} {A : Nat → Prop} {g : mG} (hg : inj g) {w0 : Nat} {y1 : Int64} (hw0 : okW w0) (X : cx p m meth c s args cX3_scale 10 RX3 D (tyG g)) (hr : meth.sig.returnType = none) {Q : CS → Prop} : ∀ (n : Nat) (l3 : Int64) (l5 : Int64) (i7 : Int32) (σ : CS), lq4 (wbX3_scale_30 w0 y1 Q) n l3 l5 i7 σ → cW p l e rmX3_scale s m args below meth c (MQ below (va_Qv Q (fun u t => wd D A (cT g u) t.heap) A) args s 0 0 A) D A (cT g σ) 30 10 [(0, .ref (g.1 (4 * w0))), (1, .long y1), (3, .long l3), (5, .long l5), (7, .int i7)] := by
  obtain ⟨hx, hb, hml, hown, hts, hK, hlk⟩ := id X
  intro n
  induction n with
  | zero =>
    intro l3 l5 i7 σ h
    exact h.elim
  | succ n hN30 =>
    intro l3 l5 i7 σ h H locs ls hw hS hl
    replace h : wbX3_scale_30 w0 y1 Q (lq4 (wbX3_scale_30 w0 y1 Q) n) l3 l5 i7 σ := h
    unfold wbX3_scale_30 at h
    refine lv_iload hx hb dX3_scale_30 (lv_at hl 4 rfl) ?_
    refine lv_aload_n hx hb dX3_scale_32 rfl (lv_at hl 0 rfl) ?_
    refine m_get (v := .int (cS σ w0)) X hw (tW hw0) rfl inA_X3 1 (by decide) mw_100 rfl dX3_scale_33 ?_
    refine lv_icmp_ge (tgt := 81) hx hb dX3_scale_36 (by decide) (fun hc => ?_) (fun hc => ?_)
    · replace h := h.1 hc
      obtain ⟨n9, h⟩ := h
      exact wX3_scale_81 hg hw0 X hr n9 l5 _ h H locs ls hw hS (lv_sub hl [0, 1, 3] rfl)
    · replace h := h.2 hc
      refine lv_aload_n hx hb dX3_scale_39 rfl (lv_at hl 0 rfl) ?_
      refine m_get (v := .ref (g.1 (4 * w0 + 1))) X hw (tW hw0) rfl inA_X3 0 (by decide) mw_36 rfl dX3_scale_40 ?_
      refine lv_iload hx hb dX3_scale_43 (lv_at hl 4 rfl) ?_
      obtain ⟨hi, h⟩ := h
      refine m_iald X hw (tD hw0) 0 rfl hi dX3_scale_45 ?_
      refine lv_i2l (v := (cF σ w0 i7.toNatClampNeg).toInt64) hx hb dX3_scale_46 rfl ?_
      refine lv_lload_n hx hb dX3_scale_47 rfl (lv_at hl 2 rfl) ?_
      refine lv_lmul hx hb dX3_scale_48 ?_
      refine lv_lload hx hb dX3_scale_49 (lv_at hl 3 rfl) ?_
      refine lv_ladd hx hb dX3_scale_51 ?_
      refine lv_topl (fun b2 eb2 => ?_)
      replace h := h b2 eb2
      refine lv_lstore (lv' := [(8, .long b2), (0, .ref (g.1 (4 * w0))), (1, .long y1), (3, .long l3), (5, .long l5), (7, .int i7)]) hx hb dX3_scale_52 hl (by decide) rfl (fun ls hl => ?_)
      refine lv_aload_n hx hb dX3_scale_54 rfl (lv_at hl 1 rfl) ?_
      refine m_get (v := .ref (g.1 (4 * w0 + 1))) X hw (tW hw0) rfl inA_X3 0 (by decide) mw_36 rfl dX3_scale_55 ?_
      refine lv_iload hx hb dX3_scale_58 (lv_at hl 5 rfl) ?_
      refine lv_lload hx hb dX3_scale_60 (lv_at hl 0 rfl) ?_
      refine lv_ldc2 (v := (2147483647 : Int64)) hx hb hown (hts _ mw_259) dX3_scale_62 ?_
      refine lv_land hx hb dX3_scale_65 ?_
      refine lv_l2i (v := (b2 &&& (2147483647 : Int64)).toInt32) hx hb dX3_scale_66 rfl ?_
      obtain ⟨hi, h⟩ := h
      refine m_iast (T' := cT g (sFi σ w0 i7 ((b2 &&& (2147483647 : Int64)).toInt32))) X hw hS (tD hw0) 0 rfl hi (uF hg) dX3_scale_67 (fun H locs hw hS => ?_)
      refine lv_lload hx hb dX3_scale_68 (lv_at hl 0 rfl) ?_
      refine lv_bipush (v := (31 : Int32)) hx hb dX3_scale_70 (by decide) ?_
      refine lv_lushr (v := jlushr b2 (31 : Int32)) hx hb dX3_scale_72 rfl ?_
      refine lv_topl (fun b3 eb3 => ?_)
      replace h := h b3 eb3
      refine lv_lstore (lv' := [(5, .long b3), (8, .long b2), (0, .ref (g.1 (4 * w0))), (1, .long y1), (3, .long l3), (7, .int i7)]) hx hb dX3_scale_73 hl (by decide) rfl (fun ls hl => ?_)
      obtain ⟨a4, ea4⟩ : ∃ z : Int32, z = i7 + (1 : Int32) := ⟨_, rfl⟩
      replace h := h a4 ea4
      refine lv_iinc (v := a4) (lv' := [(7, .int a4), (5, .long b3), (8, .long b2), (0, .ref (g.1 (4 * w0))), (1, .long y1), (3, .long l3)]) hx hb dX3_scale_75 hl (k := 5) rfl (by rw [ea4]; rfl) (by decide) rfl (fun ls hl => ?_)
      refine lv_goto (tgt := 30) hx hb dX3_scale_78 (by decide) ?_
      exact hN30 l3 b3 a4 _ h H locs ls hw hS (lv_sub hl [3, 4, 5, 1, 0] rfl)
def wpX3_scale_24 (w0 : Nat) (y1 : Int64) (Q : CS → Prop) (l3 : Int64) (σ : CS) : Prop :=
  ∃ n, lq4 (wbX3_scale_30 w0 y1 Q) n l3 (0 : Int64) (0 : Int32) σ
set_option maxRecDepth 100000 in
set_option maxHeartbeats 4000000 in
theorem wX3_scale_24 {p : Program} {l : Launch} {e : Env} {s : State} {m : MethodId} {args : Array Value} {below : List Frame} {meth : Method} {c : Code} {D : va_G} {A : Nat → Prop} {g : mG} (hg : inj g) {w0 : Nat} {y1 : Int64} (hw0 : okW w0) (X : cx p m meth c s args cX3_scale 10 RX3 D (tyG g)) (hr : meth.sig.returnType = none) {Q : CS → Prop} : ∀ (l3 : Int64) (σ : CS), wpX3_scale_24 w0 y1 Q l3 σ → cW p l e rmX3_scale s m args below meth c (MQ below (va_Qv Q (fun u t => wd D A (cT g u) t.heap) A) args s 0 0 A) D A (cT g σ) 24 10 [(0, .ref (g.1 (4 * w0))), (1, .long y1), (3, .long l3)] := by
  obtain ⟨hx, hb, hml, hown, hts, hK, hlk⟩ := id X
  intro l3 σ h H locs ls hw hS hl
  unfold wpX3_scale_24 at h
  refine lv_lconst (v := (0 : Int64)) hx hb dX3_scale_24 (by decide) ?_
  refine lv_lstore (lv' := [(5, .long (0 : Int64)), (0, .ref (g.1 (4 * w0))), (1, .long y1), (3, .long l3)]) hx hb dX3_scale_25 hl (by decide) rfl (fun ls hl => ?_)
  refine lv_iconst (v := (0 : Int32)) hx hb dX3_scale_27 (by decide) ?_
  refine lv_istore (lv' := [(7, .int (0 : Int32)), (5, .long (0 : Int64)), (0, .ref (g.1 (4 * w0))), (1, .long y1), (3, .long l3)]) hx hb dX3_scale_28 hl (by decide) rfl (fun ls hl => ?_)
  obtain ⟨n9, h⟩ := h
  exact wX3_scale_30 hg hw0 X hr n9 l3 (0 : Int64) (0 : Int32) _ h H locs ls hw hS (lv_sub hl [2, 3, 4, 1, 0] rfl)
def wpX3_scale_0 (w0 : Nat) (y1 : Int64) (Q : CS → Prop) (σ : CS) : Prop :=
  (¬ (lg_cmp y1 (0 : Int64)) = 0 →
    (0 ≤ (lg_cmp y1 (0 : Int64)) →
      wpX3_scale_24 w0 y1 Q y1 σ) ∧
    (¬ 0 ≤ (lg_cmp y1 (0 : Int64)) →
      ∀ b5 : Int64, b5 = -y1 →
      wpX3_scale_24 w0 y1 Q b5 σ)) ∧
  ((lg_cmp y1 (0 : Int64)) = 0 →
    wpX3_clear w0 σ (fun (σ7 : CS) =>
      Q σ7))
set_option maxRecDepth 100000 in
set_option maxHeartbeats 4000000 in
theorem wX3_scale_0 {p : Program} {l : Launch} {e : Env} {s : State} {m : MethodId} {args : Array Value} {below : List Frame} {meth : Method} {c : Code} {D : va_G} {A : Nat → Prop} {g : mG} (hg : inj g) {w0 : Nat} {y1 : Int64} (hw0 : okW w0) (X : cx p m meth c s args cX3_scale 10 RX3 D (tyG g)) (hr : meth.sig.returnType = none) {Q : CS → Prop} : ∀ (σ : CS), wpX3_scale_0 w0 y1 Q σ → cW p l e rmX3_scale s m args below meth c (MQ below (va_Qv Q (fun u t => wd D A (cT g u) t.heap) A) args s 0 0 A) D A (cT g σ) 0 10 [(0, .ref (g.1 (4 * w0))), (1, .long y1)] := by
  obtain ⟨hx, hb, hml, hown, hts, hK, hlk⟩ := id X
  intro σ h H locs ls hw hS hl
  unfold wpX3_scale_0 at h
  refine lv_lload_n hx hb dX3_scale_0 rfl (lv_at hl 1 rfl) ?_
  refine lv_lconst (v := (0 : Int64)) hx hb dX3_scale_1 (by decide) ?_
  refine W.lcmp hx hb dX3_scale_2 ?_
  refine lv_if_ne (tgt := 11) hx hb dX3_scale_3 (by decide) (fun hc => ?_) (fun hc => ?_)
  · replace h := h.1 hc
    refine lv_lload_n hx hb dX3_scale_11 rfl (lv_at hl 1 rfl) ?_
    refine lv_lconst (v := (0 : Int64)) hx hb dX3_scale_12 (by decide) ?_
    refine W.lcmp hx hb dX3_scale_13 ?_
    refine lv_if_ge (tgt := 22) hx hb dX3_scale_14 (by decide) (fun hc => ?_) (fun hc => ?_)
    · replace h := h.1 hc
      refine lv_lload_n hx hb dX3_scale_22 rfl (lv_at hl 1 rfl) ?_
      refine lv_lstore_n (lv' := [(3, .long y1), (0, .ref (g.1 (4 * w0))), (1, .long y1)]) hx hb dX3_scale_23 rfl hl (by decide) rfl (fun ls hl => ?_)
      exact wX3_scale_24 hg hw0 X hr y1 _ h H locs ls hw hS (lv_sub hl [1, 2, 0] rfl)
    · replace h := h.2 hc
      refine lv_lload_n hx hb dX3_scale_17 rfl (lv_at hl 1 rfl) ?_
      refine lv_lneg hx hb dX3_scale_18 ?_
      refine lv_goto (tgt := 23) hx hb dX3_scale_19 (by decide) ?_
      refine lv_topl (fun b5 eb5 => ?_)
      replace h := h b5 eb5
      refine lv_lstore_n (lv' := [(3, .long b5), (0, .ref (g.1 (4 * w0))), (1, .long y1)]) hx hb dX3_scale_23 rfl hl (by decide) rfl (fun ls hl => ?_)
      exact wX3_scale_24 hg hw0 X hr b5 _ h H locs ls hw hS (lv_sub hl [1, 2, 0] rfl)
  · replace h := h.2 hc
    refine lv_aload_n hx hb dX3_scale_6 rfl (lv_at hl 0 rfl) ?_
    refine m_cVv (TT := cT g) (As := []) (rest := []) X hl.1 hw hS (kX3_clear hg hw0 h) mw_291 fX3_clear (tW hw0) rfl rfl ⟨rfl, rfl, Nat.le_of_ble_eq_true rfl, Nat.le_of_ble_eq_true rfl⟩ rfl rfl (Nat.le_of_ble_eq_true rfl) dX3_scale_7 (fun σ7 H locs h hw hS => ?_)
    exact m_vret X hr hw hS h dX3_scale_10
def wpX3_scale (w0 : Nat) (y1 : Int64) (σ : CS) (Q : CS → Prop) : Prop := wpX3_scale_0 w0 y1 Q σ
theorem kX3_scale {l : Launch} {D : va_G} {A : Nat → Prop} {g : mG} (hg : inj g) {w0 : Nat} {y1 : Int64} (hw0 : okW w0) {σ : CS} {Q : CS → Prop} (h : wpX3_scale w0 y1 σ Q) : Met l yX3_scale (Cond.code yX3_scale cX3_scale 10 none :: wsA) rmX3_scale (mPc D (tyG g) A (cT g σ) [.ref (g.1 (4 * w0)), .long y1]) (va_Qv Q (fun u t => wd D A (cT g u) t.heap) A) 0 0 A :=
  m_met (by decide +kernel) (Nat.le_of_ble_eq_true rfl) (fun p e s m below meth c X hr H locs ls hw hS hl => wX3_scale_0 hg hw0 X hr σ h H locs ls hw hS (lv_sub hl [0, 1] rfl))
theorem fX3_scale : vfit yX3_scale cX3_scale 10 none 1 := ⟨mw_288, mw_289, mw_29, mw_290, by decide +kernel, by decide +kernel, by decide +kernel⟩
/-! BigPolys$Whole.product(LBigPolys$Whole;LBigPolys$Whole;)V -/
def rmX3_product : Room := { frames := 2, cells := 0, slots := 0, locals := 46 }
def wpX3_product_158 (w0 : Nat) (w1 : Nat) (w2 : Nat) (Q : CS → Prop) (N31 : Int32 → Int32 → CS → Prop) (i3 : Int32) (i4 : Int32) (σ : CS) : Prop :=
  ∀ a1 : Int32, a1 = i4 + (1 : Int32) →
  N31 i3 a1 σ
set_option maxRecDepth 100000 in
set_option maxHeartbeats 4000000 in
theorem wX3_product_158 {p : Program} {l : Launch} {e : Env} {s : State} {m : MethodId} {args : Array Value} {below : List Frame} {meth : Method} {c : Code} {D : va_G} {A : Nat → Prop} {g : mG} (hg : inj g) {w0 : Nat} {w1 : Nat} {w2 : Nat} (hw0 : okW w0) (hw1 : okW w1) (hw2 : okW w2) (X : cx p m meth c s args cX3_product 12 RX3 D (tyG g)) (hr : meth.sig.returnType = none) {Q : CS → Prop} {N31 : Int32 → Int32 → CS → Prop} (hN31 : ∀ (i3 : Int32) (i4 : Int32) (σ : CS), N31 i3 i4 σ → cW p l e rmX3_product s m args below meth c (MQ below (va_Qv Q (fun u t => wd D A (cT g u) t.heap) A) args s 0 0 A) D A (cT g σ) 31 12 [(0, .ref (g.1 (4 * w0))), (1, .ref (g.1 (4 * w1))), (2, .ref (g.1 (4 * w2))), (3, .int i3), (4, .int i4)]) : ∀ (i3 : Int32) (i4 : Int32) (σ : CS), wpX3_product_158 w0 w1 w2 Q N31 i3 i4 σ → cW p l e rmX3_product s m args below meth c (MQ below (va_Qv Q (fun u t => wd D A (cT g u) t.heap) A) args s 0 0 A) D A (cT g σ) 158 12 [(0, .ref (g.1 (4 * w0))), (1, .ref (g.1 (4 * w1))), (2, .ref (g.1 (4 * w2))), (3, .int i3), (4, .int i4)] := by
  obtain ⟨hx, hb, hml, hown, hts, hK, hlk⟩ := id X
  intro i3 i4 σ h H locs ls hw hS hl
  unfold wpX3_product_158 at h
  obtain ⟨a1, ea1⟩ : ∃ z : Int32, z = i4 + (1 : Int32) := ⟨_, rfl⟩
  replace h := h a1 ea1
  refine lv_iinc (v := a1) (lv' := [(4, .int a1), (0, .ref (g.1 (4 * w0))), (1, .ref (g.1 (4 * w1))), (2, .ref (g.1 (4 * w2))), (3, .int i3)]) hx hb dX3_product_158 hl (k := 4) rfl (by rw [ea1]; rfl) (by decide) rfl (fun ls hl => ?_)
  refine lv_goto (tgt := 31) hx hb dX3_product_161 (by decide) ?_
  exact hN31 i3 a1 _ h H locs ls hw hS (lv_sub hl [1, 2, 3, 4, 0] rfl)
def wpX3_product_132 (w0 : Nat) (w1 : Nat) (w2 : Nat) (Q : CS → Prop) (N31 : Int32 → Int32 → CS → Prop) (i3 : Int32) (i4 : Int32) (l7 : Int64) (σ : CS) : Prop :=
  (i3 ≤ (i4 + (cS σ w2)) →
    wpX3_product_158 w0 w1 w2 Q N31 i3 i4 σ) ∧
  (¬ i3 ≤ (i4 + (cS σ w2)) →
    vp_in (i4 + (cS σ w2)) (capW w0) ∧ (
    wpX3_product_158 w0 w1 w2 Q N31 i3 i4 (sFi σ w0 (i4 + (cS σ w2)) l7.toInt32)))
set_option maxRecDepth 100000 in
set_option maxHeartbeats 4000000 in
theorem wX3_product_132 {p : Program} {l : Launch} {e : Env} {s : State} {m : MethodId} {args : Array Value} {below : List Frame} {meth : Method} {c : Code} {D : va_G} {A : Nat → Prop} {g : mG} (hg : inj g) {w0 : Nat} {w1 : Nat} {w2 : Nat} (hw0 : okW w0) (hw1 : okW w1) (hw2 : okW w2) (X : cx p m meth c s args cX3_product 12 RX3 D (tyG g)) (hr : meth.sig.returnType = none) {Q : CS → Prop} {N31 : Int32 → Int32 → CS → Prop} (hN31 : ∀ (i3 : Int32) (i4 : Int32) (σ : CS), N31 i3 i4 σ → cW p l e rmX3_product s m args below meth c (MQ below (va_Qv Q (fun u t => wd D A (cT g u) t.heap) A) args s 0 0 A) D A (cT g σ) 31 12 [(0, .ref (g.1 (4 * w0))), (1, .ref (g.1 (4 * w1))), (2, .ref (g.1 (4 * w2))), (3, .int i3), (4, .int i4)]) : ∀ (i3 : Int32) (i4 : Int32) (l7 : Int64) (σ : CS), wpX3_product_132 w0 w1 w2 Q N31 i3 i4 l7 σ → cW p l e rmX3_product s m args below meth c (MQ below (va_Qv Q (fun u t => wd D A (cT g u) t.heap) A) args s 0 0 A) D A (cT g σ) 132 12 [(0, .ref (g.1 (4 * w0))), (1, .ref (g.1 (4 * w1))), (2, .ref (g.1 (4 * w2))), (3, .int i3), (4, .int i4), (7, .long l7)] := by
  obtain ⟨hx, hb, hml, hown, hts, hK, hlk⟩ := id X
  intro i3 i4 l7 σ h H locs ls hw hS hl
  unfold wpX3_product_132 at h
  refine lv_iload hx hb dX3_product_132 (lv_at hl 4 rfl) ?_
  refine lv_aload_n hx hb dX3_product_134 rfl (lv_at hl 2 rfl) ?_
  refine m_get (v := .int (cS σ w2)) X hw (tW hw2) rfl inA_X3 1 (by decide) mw_100 rfl dX3_product_135 ?_
  refine lv_iadd hx hb dX3_product_138 ?_
  refine lv_iload_n hx hb dX3_product_139 rfl (lv_at hl 3 rfl) ?_
  refine lv_icmp_ge (tgt := 158) hx hb dX3_product_140 (by decide) (fun hc => ?_) (fun hc => ?_)
  · replace h := h.1 hc
    exact wX3_product_158 hg hw0 hw1 hw2 X hr hN31 i3 i4 _ h H locs ls hw hS (lv_sub hl [0, 1, 2, 3, 4] rfl)
  · replace h := h.2 hc
    refine lv_aload_n hx hb dX3_product_143 rfl (lv_at hl 0 rfl) ?_
    refine m_get (v := .ref (g.1 (4 * w0 + 1))) X hw (tW hw0) rfl inA_X3 0 (by decide) mw_36 rfl dX3_product_144 ?_
    refine lv_iload hx hb dX3_product_147 (lv_at hl 4 rfl) ?_
    refine lv_aload_n hx hb dX3_product_149 rfl (lv_at hl 2 rfl) ?_
    refine m_get (v := .int (cS σ w2)) X hw (tW hw2) rfl inA_X3 1 (by decide) mw_100 rfl dX3_product_150 ?_
    refine lv_iadd hx hb dX3_product_153 ?_
    refine lv_lload hx hb dX3_product_154 (lv_at hl 5 rfl) ?_
    refine lv_l2i (v := l7.toInt32) hx hb dX3_product_156 rfl ?_
    obtain ⟨hi, h⟩ := h
    refine m_iast (T' := cT g (sFi σ w0 (i4 + (cS σ w2)) l7.toInt32)) X hw hS (tD hw0) 0 rfl hi (uF hg) dX3_product_157 (fun H locs hw hS => ?_)
    exact wX3_product_158 hg hw0 hw1 hw2 X hr hN31 i3 i4 _ h H locs ls hw hS (lv_sub hl [0, 1, 2, 3, 4] rfl)
def wbX3_product_56 (w0 : Nat) (w1 : Nat) (w2 : Nat) (Q : CS → Prop) (N31 : Int32 → Int32 → CS → Prop) (N56 : Int32 → Int32 → Int64 → Int64 → Int32 → CS → Prop) (i3 : Int32) (i4 : Int32) (l5 : Int64) (l7 : Int64) (i9 : Int32) (σ : CS) : Prop :=
  ((cS σ w2) ≤ i9 →
    wpX3_product_132 w0 w1 w2 Q N31 i3 i4 l7 σ) ∧
  (¬ (cS σ w2) ≤ i9 →
    (i3 ≤ (i4 + i9) →
      wpX3_product_132 w0 w1 w2 Q N31 i3 i4 l7 σ) ∧
    (¬ i3 ≤ (i4 + i9) →
      vp_in i9 (capW w2) ∧ (
      vp_in (i4 + i9) (capW w0) ∧ (
      ∀ b2 : Int64, b2 = ((l5 * ((cF σ w2 i9.toNatClampNeg).toInt64)) + ((cF σ w0 (i4 + i9).toNatClampNeg).toInt64)) + l7 →
      vp_in (i4 + i9) (capW w0) ∧ (
      ∀ b3 : Int64, b3 = jlushr b2 (31 : Int32) →
      ∀ a4 : Int32, a4 = i9 + (1 : Int32) →
      N56 i3 i4 l5 b3 a4 (sFi σ w0 (i4 + i9) ((b2 &&& (2147483647 : Int64)).toInt32)))))))
set_option maxRecDepth 100000 in
set_option maxHeartbeats 4000000 in
theorem wX3_product_56 {p : Program} {l : Launch} {e : Env} {s : State} {m : MethodId} {args : Array Value} {below : List Frame} {meth : Method} {c : Code} {D : va_G} {A : Nat → Prop} {g : mG} (hg : inj g) {w0 : Nat} {w1 : Nat} {w2 : Nat} (hw0 : okW w0) (hw1 : okW w1) (hw2 : okW w2) (X : cx p m meth c s args cX3_product 12 RX3 D (tyG g)) (hr : meth.sig.returnType = none) {Q : CS → Prop} {N31 : Int32 → Int32 → CS → Prop} (hN31 : ∀ (i3 : Int32) (i4 : Int32) (σ : CS), N31 i3 i4 σ → cW p l e rmX3_product s m args below meth c (MQ below (va_Qv Q (fun u t => wd D A (cT g u) t.heap) A) args s 0 0 A) D A (cT g σ) 31 12 [(0, .ref (g.1 (4 * w0))), (1, .ref (g.1 (4 * w1))), (2, .ref (g.1 (4 * w2))), (3, .int i3), (4, .int i4)]) : ∀ (n : Nat) (i3 : Int32) (i4 : Int32) (l5 : Int64) (l7 : Int64) (i9 : Int32) (σ : CS), lq6 (wbX3_product_56 w0 w1 w2 Q N31) n i3 i4 l5 l7 i9 σ → cW p l e rmX3_product s m args below meth c (MQ below (va_Qv Q (fun u t => wd D A (cT g u) t.heap) A) args s 0 0 A) D A (cT g σ) 56 12 [(0, .ref (g.1 (4 * w0))), (1, .ref (g.1 (4 * w1))), (2, .ref (g.1 (4 * w2))), (3, .int i3), (4, .int i4), (5, .long l5), (7, .long l7), (9, .int i9)] := by
  obtain ⟨hx, hb, hml, hown, hts, hK, hlk⟩ := id X
  intro n
  induction n with
  | zero =>
    intro i3 i4 l5 l7 i9 σ h
    exact h.elim
  | succ n hN56 =>
    intro i3 i4 l5 l7 i9 σ h H locs ls hw hS hl
    replace h : wbX3_product_56 w0 w1 w2 Q N31 (lq6 (wbX3_product_56 w0 w1 w2 Q N31) n) i3 i4 l5 l7 i9 σ := h
    unfold wbX3_product_56 at h
    refine lv_iload hx hb dX3_product_56 (lv_at hl 7 rfl) ?_
    refine lv_aload_n hx hb dX3_product_58 rfl (lv_at hl 2 rfl) ?_
    refine m_get (v := .int (cS σ w2)) X hw (tW hw2) rfl inA_X3 1 (by decide) mw_100 rfl dX3_product_59 ?_
    refine lv_icmp_ge (tgt := 132) hx hb dX3_product_62 (by decide) (fun hc => ?_) (fun hc => ?_)
    · replace h := h.1 hc
      exact wX3_product_132 hg hw0 hw1 hw2 X hr hN31 i3 i4 l7 _ h H locs ls hw hS (lv_sub hl [0, 1, 2, 3, 4, 6] rfl)
    · replace h := h.2 hc
      refine lv_iload hx hb dX3_product_65 (lv_at hl 4 rfl) ?_
      refine lv_iload hx hb dX3_product_67 (lv_at hl 7 rfl) ?_
      refine lv_iadd hx hb dX3_product_69 ?_
      refine lv_iload_n hx hb dX3_product_70 rfl (lv_at hl 3 rfl) ?_
      refine lv_icmp_ge (tgt := 132) hx hb dX3_product_71 (by decide) (fun hc => ?_) (fun hc => ?_)
      · replace h := h.1 hc
        exact wX3_product_132 hg hw0 hw1 hw2 X hr hN31 i3 i4 l7 _ h H locs ls hw hS (lv_sub hl [0, 1, 2, 3, 4, 6] rfl)
      · replace h := h.2 hc
        refine lv_lload hx hb dX3_product_74 (lv_at hl 5 rfl) ?_
        refine lv_aload_n hx hb dX3_product_76 rfl (lv_at hl 2 rfl) ?_
        refine m_get (v := .ref (g.1 (4 * w2 + 1))) X hw (tW hw2) rfl inA_X3 0 (by decide) mw_36 rfl dX3_product_77 ?_
        refine lv_iload hx hb dX3_product_80 (lv_at hl 7 rfl) ?_
        obtain ⟨hi, h⟩ := h
        refine m_iald X hw (tD hw2) 0 rfl hi dX3_product_82 ?_
        refine lv_i2l (v := (cF σ w2 i9.toNatClampNeg).toInt64) hx hb dX3_product_83 rfl ?_
        refine lv_lmul hx hb dX3_product_84 ?_
        refine lv_aload_n hx hb dX3_product_85 rfl (lv_at hl 0 rfl) ?_
        refine m_get (v := .ref (g.1 (4 * w0 + 1))) X hw (tW hw0) rfl inA_X3 0 (by decide) mw_36 rfl dX3_product_86 ?_
        refine lv_iload hx hb dX3_product_89 (lv_at hl 4 rfl) ?_
        refine lv_iload hx hb dX3_product_91 (lv_at hl 7 rfl) ?_
        refine lv_iadd hx hb dX3_product_93 ?_
        obtain ⟨hi, h⟩ := h
        refine m_iald X hw (tD hw0) 0 rfl hi dX3_product_94 ?_
        refine lv_i2l (v := (cF σ w0 (i4 + i9).toNatClampNeg).toInt64) hx hb dX3_product_95 rfl ?_
        refine lv_ladd hx hb dX3_product_96 ?_
        refine lv_lload hx hb dX3_product_97 (lv_at hl 6 rfl) ?_
        refine lv_ladd hx hb dX3_product_99 ?_
        refine lv_topl (fun b2 eb2 => ?_)
        replace h := h b2 eb2
        refine lv_lstore (lv' := [(10, .long b2), (0, .ref (g.1 (4 * w0))), (1, .ref (g.1 (4 * w1))), (2, .ref (g.1 (4 * w2))), (3, .int i3), (4, .int i4), (5, .long l5), (7, .long l7), (9, .int i9)]) hx hb dX3_product_100 hl (by decide) rfl (fun ls hl => ?_)
        refine lv_aload_n hx hb dX3_product_102 rfl (lv_at hl 1 rfl) ?_
        refine m_get (v := .ref (g.1 (4 * w0 + 1))) X hw (tW hw0) rfl inA_X3 0 (by decide) mw_36 rfl dX3_product_103 ?_
        refine lv_iload hx hb dX3_product_106 (lv_at hl 5 rfl) ?_
        refine lv_iload hx hb dX3_product_108 (lv_at hl 8 rfl) ?_
        refine lv_iadd hx hb dX3_product_110 ?_
        refine lv_lload hx hb dX3_product_111 (lv_at hl 0 rfl) ?_
        refine lv_ldc2 (v := (2147483647 : Int64)) hx hb hown (hts _ mw_259) dX3_product_113 ?_
        refine lv_land hx hb dX3_product_116 ?_
        refine lv_l2i (v := (b2 &&& (2147483647 : Int64)).toInt32) hx hb dX3_product_117 rfl ?_
        obtain ⟨hi, h⟩ := h
        refine m_iast (T' := cT g (sFi σ w0 (i4 + i9) ((b2 &&& (2147483647 : Int64)).toInt32))) X hw hS (tD hw0) 0 rfl hi (uF hg) dX3_product_118 (fun H locs hw hS => ?_)
        refine lv_lload hx hb dX3_product_119 (lv_at hl 0 rfl) ?_
        refine lv_bipush (v := (31 : Int32)) hx hb dX3_product_121 (by decide) ?_
        refine lv_lushr (v := jlushr b2 (31 : Int32)) hx hb dX3_product_123 rfl ?_
        refine lv_topl (fun b3 eb3 => ?_)
        replace h := h b3 eb3
        refine lv_lstore (lv' := [(7, .long b3), (10, .long b2), (0, .ref (g.1 (4 * w0))), (1, .ref (g.1 (4 * w1))), (2, .ref (g.1 (4 * w2))), (3, .int i3), (4, .int i4), (5, .long l5), (9, .int i9)]) hx hb dX3_product_124 hl (by decide) rfl (fun ls hl => ?_)
        obtain ⟨a4, ea4⟩ : ∃ z : Int32, z = i9 + (1 : Int32) := ⟨_, rfl⟩
        replace h := h a4 ea4
        refine lv_iinc (v := a4) (lv' := [(9, .int a4), (7, .long b3), (10, .long b2), (0, .ref (g.1 (4 * w0))), (1, .ref (g.1 (4 * w1))), (2, .ref (g.1 (4 * w2))), (3, .int i3), (4, .int i4), (5, .long l5)]) hx hb dX3_product_126 hl (k := 8) rfl (by rw [ea4]; rfl) (by decide) rfl (fun ls hl => ?_)
        refine lv_goto (tgt := 56) hx hb dX3_product_129 (by decide) ?_
        exact hN56 i3 i4 l5 b3 a4 _ h H locs ls hw hS (lv_sub hl [3, 4, 5, 6, 7, 8, 1, 0] rfl)
def wbX3_product_31 (w0 : Nat) (w1 : Nat) (w2 : Nat) (Q : CS → Prop) (N31 : Int32 → Int32 → CS → Prop) (i3 : Int32) (i4 : Int32) (σ : CS) : Prop :=
  ((cS σ w1) ≤ i4 →
    wpX3_trim w0 (sG (sS σ w0 i3) w0 ((cG (sS σ w0 i3) w1) * (cG (sS σ w0 i3) w2))) (fun (σ6 : CS) =>
      Q σ6)) ∧
  (¬ (cS σ w1) ≤ i4 →
    vp_in i4 (capW w1) ∧ (
    ∀ b7 : Int64, b7 = (cF σ w1 i4.toNatClampNeg).toInt64 →
    ∃ n, lq6 (wbX3_product_56 w0 w1 w2 Q N31) n i3 i4 b7 (0 : Int64) (0 : Int32) σ))
set_option maxRecDepth 100000 in
set_option maxHeartbeats 4000000 in
theorem wX3_product_31 {p : Program} {l : Launch} {e : Env} {s : State} {m : MethodId} {args : Array Value} {below : List Frame} {meth : Method} {c : Code} {D : va_G} {A : Nat → Prop} {g : mG} (hg : inj g) {w0 : Nat} {w1 : Nat} {w2 : Nat} (hw0 : okW w0) (hw1 : okW w1) (hw2 : okW w2) (X : cx p m meth c s args cX3_product 12 RX3 D (tyG g)) (hr : meth.sig.returnType = none) {Q : CS → Prop} : ∀ (n : Nat) (i3 : Int32) (i4 : Int32) (σ : CS), lq3 (wbX3_product_31 w0 w1 w2 Q) n i3 i4 σ → cW p l e rmX3_product s m args below meth c (MQ below (va_Qv Q (fun u t => wd D A (cT g u) t.heap) A) args s 0 0 A) D A (cT g σ) 31 12 [(0, .ref (g.1 (4 * w0))), (1, .ref (g.1 (4 * w1))), (2, .ref (g.1 (4 * w2))), (3, .int i3), (4, .int i4)] := by
  obtain ⟨hx, hb, hml, hown, hts, hK, hlk⟩ := id X
  intro n
  induction n with
  | zero =>
    intro i3 i4 σ h
    exact h.elim
  | succ n hN31 =>
    intro i3 i4 σ h H locs ls hw hS hl
    replace h : wbX3_product_31 w0 w1 w2 Q (lq3 (wbX3_product_31 w0 w1 w2 Q) n) i3 i4 σ := h
    unfold wbX3_product_31 at h
    refine lv_iload hx hb dX3_product_31 (lv_at hl 4 rfl) ?_
    refine lv_aload_n hx hb dX3_product_33 rfl (lv_at hl 1 rfl) ?_
    refine m_get (v := .int (cS σ w1)) X hw (tW hw1) rfl inA_X3 1 (by decide) mw_100 rfl dX3_product_34 ?_
    refine lv_icmp_ge (tgt := 164) hx hb dX3_product_37 (by decide) (fun hc => ?_) (fun hc => ?_)
    · replace h := h.1 hc
      refine lv_aload_n hx hb dX3_product_164 rfl (lv_at hl 0 rfl) ?_
      refine lv_iload_n hx hb dX3_product_165 rfl (lv_at hl 3 rfl) ?_
      refine m_put (T' := cT g (sS σ w0 i3)) X hw hS (tW hw0) rfl inA_X3 tyX3 tyX3_ok nmX3 1 (by decide) mw_100 rfl pd_I (Nat.le_of_ble_eq_true rfl) (uS hg) dX3_product_166 (fun H locs hw hS => ?_)
      refine lv_aload_n hx hb dX3_product_169 rfl (lv_at hl 0 rfl) ?_
      refine lv_aload_n hx hb dX3_product_170 rfl (lv_at hl 1 rfl) ?_
      refine m_get (v := .int (cG (sS σ w0 i3) w1)) X hw (tW hw1) rfl inA_X3 2 (by decide) mw_101 rfl dX3_product_171 ?_
      refine lv_aload_n hx hb dX3_product_174 rfl (lv_at hl 2 rfl) ?_
      refine m_get (v := .int (cG (sS σ w0 i3) w2)) X hw (tW hw2) rfl inA_X3 2 (by decide) mw_101 rfl dX3_product_175 ?_
      refine lv_imul hx hb dX3_product_178 ?_
      refine m_put (T' := cT g (sG (sS σ w0 i3) w0 ((cG (sS σ w0 i3) w1) * (cG (sS σ w0 i3) w2)))) X hw hS (tW hw0) rfl inA_X3 tyX3 tyX3_ok nmX3 2 (by decide) mw_101 rfl pd_I (Nat.le_of_ble_eq_true rfl) (uG hg) dX3_product_179 (fun H locs hw hS => ?_)
      refine lv_aload_n hx hb dX3_product_182 rfl (lv_at hl 0 rfl) ?_
      refine m_cVv (TT := cT g) (As := []) (rest := []) X hl.1 hw hS (kX3_trim hg hw0 h) mw_191 fX3_trim (tW hw0) rfl rfl ⟨rfl, rfl, Nat.le_of_ble_eq_true rfl, Nat.le_of_ble_eq_true rfl⟩ rfl rfl (Nat.le_of_ble_eq_true rfl) dX3_product_183 (fun σ6 H locs h hw hS => ?_)
      exact m_vret X hr hw hS h dX3_product_186
    · replace h := h.2 hc
      refine lv_aload_n hx hb dX3_product_40 rfl (lv_at hl 1 rfl) ?_
      refine m_get (v := .ref (g.1 (4 * w1 + 1))) X hw (tW hw1) rfl inA_X3 0 (by decide) mw_36 rfl dX3_product_41 ?_
      refine lv_iload hx hb dX3_product_44 (lv_at hl 4 rfl) ?_
      obtain ⟨hi, h⟩ := h
      refine m_iald X hw (tD hw1) 0 rfl hi dX3_product_46 ?_
      refine lv_i2l (v := (cF σ w1 i4.toNatClampNeg).toInt64) hx hb dX3_product_47 rfl ?_
      refine lv_topl (fun b7 eb7 => ?_)
      replace h := h b7 eb7
      refine lv_lstore (lv' := [(5, .long b7), (0, .ref (g.1 (4 * w0))), (1, .ref (g.1 (4 * w1))), (2, .ref (g.1 (4 * w2))), (3, .int i3), (4, .int i4)]) hx hb dX3_product_48 hl (by decide) rfl (fun ls hl => ?_)
      refine lv_lconst (v := (0 : Int64)) hx hb dX3_product_50 (by decide) ?_
      refine lv_lstore (lv' := [(7, .long (0 : Int64)), (5, .long b7), (0, .ref (g.1 (4 * w0))), (1, .ref (g.1 (4 * w1))), (2, .ref (g.1 (4 * w2))), (3, .int i3), (4, .int i4)]) hx hb dX3_product_51 hl (by decide) rfl (fun ls hl => ?_)
      refine lv_iconst (v := (0 : Int32)) hx hb dX3_product_53 (by decide) ?_
      refine lv_istore (lv' := [(9, .int (0 : Int32)), (7, .long (0 : Int64)), (5, .long b7), (0, .ref (g.1 (4 * w0))), (1, .ref (g.1 (4 * w1))), (2, .ref (g.1 (4 * w2))), (3, .int i3), (4, .int i4)]) hx hb dX3_product_54 hl (by decide) rfl (fun ls hl => ?_)
      obtain ⟨n9, h⟩ := h
      exact wX3_product_56 hg hw0 hw1 hw2 X hr hN31 n9 i3 i4 b7 (0 : Int64) (0 : Int32) _ h H locs ls hw hS (lv_sub hl [3, 4, 5, 6, 7, 2, 1, 0] rfl)
def wpX3_product_0 (w0 : Nat) (w1 : Nat) (w2 : Nat) (Q : CS → Prop) (σ : CS) : Prop :=
  ∀ a8 : Int32, a8 = (if (Int32.ofNat (capW w0)) < ((cS σ w1) + (cS σ w2)) then (Int32.ofNat (capW w0)) else ((cS σ w1) + (cS σ w2))) →
  wpJ7_fill_fda19 w0 (0 : Int32) a8 (0 : Int32) σ (fun (σ10 : CS) =>
    ∃ n, lq3 (wbX3_product_31 w0 w1 w2 Q) n a8 (0 : Int32) σ10)
set_option maxRecDepth 100000 in
set_option maxHeartbeats 4000000 in
theorem wX3_product_0 {p : Program} {l : Launch} {e : Env} {s : State} {m : MethodId} {args : Array Value} {below : List Frame} {meth : Method} {c : Code} {D : va_G} {A : Nat → Prop} {g : mG} (hg : inj g) {w0 : Nat} {w1 : Nat} {w2 : Nat} (hw0 : okW w0) (hw1 : okW w1) (hw2 : okW w2) (X : cx p m meth c s args cX3_product 12 RX3 D (tyG g)) (hr : meth.sig.returnType = none) {Q : CS → Prop} : ∀ (σ : CS), wpX3_product_0 w0 w1 w2 Q σ → cW p l e rmX3_product s m args below meth c (MQ below (va_Qv Q (fun u t => wd D A (cT g u) t.heap) A) args s 0 0 A) D A (cT g σ) 0 12 [(0, .ref (g.1 (4 * w0))), (1, .ref (g.1 (4 * w1))), (2, .ref (g.1 (4 * w2)))] := by
  obtain ⟨hx, hb, hml, hown, hts, hK, hlk⟩ := id X
  intro σ h H locs ls hw hS hl
  unfold wpX3_product_0 at h
  refine lv_aload_n hx hb dX3_product_0 rfl (lv_at hl 1 rfl) ?_
  refine m_get (v := .int (cS σ w1)) X hw (tW hw1) rfl inA_X3 1 (by decide) mw_100 rfl dX3_product_1 ?_
  refine lv_aload_n hx hb dX3_product_4 rfl (lv_at hl 2 rfl) ?_
  refine m_get (v := .int (cS σ w2)) X hw (tW hw2) rfl inA_X3 1 (by decide) mw_100 rfl dX3_product_5 ?_
  refine lv_iadd hx hb dX3_product_8 ?_
  refine lv_aload_n hx hb dX3_product_9 rfl (lv_at hl 0 rfl) ?_
  refine m_get (v := .ref (g.1 (4 * w0 + 1))) X hw (tW hw0) rfl inA_X3 0 (by decide) mw_36 rfl dX3_product_10 ?_
  refine m_alen (v := Int32.ofNat (capW w0)) X hw (tD hw0) 0 rfl rfl dX3_product_13 ?_
  refine va_mmin hx hb (hml.trans hl.1.symm) hown (hts _ mw_186) (hts _ mw_53) (hts _ mw_54) (hts _ mw_55) (Nat.le_of_ble_eq_true rfl) (Nat.le_of_ble_eq_true rfl) (Nat.zero_le _) (Nat.zero_le _) dX3_product_14 ?_
  refine lv_topi (fun a8 ea8 => ?_)
  replace h := h a8 ea8
  refine lv_istore_n (lv' := [(3, .int a8), (0, .ref (g.1 (4 * w0))), (1, .ref (g.1 (4 * w1))), (2, .ref (g.1 (4 * w2)))]) hx hb dX3_product_17 rfl hl (by decide) rfl (fun ls hl => ?_)
  refine lv_aload_n hx hb dX3_product_18 rfl (lv_at hl 1 rfl) ?_
  refine m_get (v := .ref (g.1 (4 * w0 + 1))) X hw (tW hw0) rfl inA_X3 0 (by decide) mw_36 rfl dX3_product_19 ?_
  refine lv_iconst (v := (0 : Int32)) hx hb dX3_product_22 (by decide) ?_
  refine lv_iload_n hx hb dX3_product_23 rfl (lv_at hl 0 rfl) ?_
  refine lv_iconst (v := (0 : Int32)) hx hb dX3_product_24 (by decide) ?_
  refine m_cSv (TT := cT g) (As := [.ref (g.1 (4 * w0 + 1)), .int (0 : Int32), .int a8, .int (0 : Int32)]) (rest := []) X hl.1 hw hS (kJ7_fill_fda19 hg hw0 h) mw_260 fJ7_fill_fda19 ⟨rfl, rfl, Nat.le_of_ble_eq_true rfl, Nat.le_of_ble_eq_true rfl⟩ rfl rfl (Nat.le_of_ble_eq_true rfl) dX3_product_25 (fun σ10 H locs h hw hS => ?_)
  refine lv_iconst (v := (0 : Int32)) hx hb dX3_product_28 (by decide) ?_
  refine lv_istore (lv' := [(4, .int (0 : Int32)), (3, .int a8), (0, .ref (g.1 (4 * w0))), (1, .ref (g.1 (4 * w1))), (2, .ref (g.1 (4 * w2)))]) hx hb dX3_product_29 hl (by decide) rfl (fun ls hl => ?_)
  obtain ⟨n9, h⟩ := h
  exact wX3_product_31 hg hw0 hw1 hw2 X hr n9 a8 (0 : Int32) _ h H locs ls hw hS (lv_sub hl [2, 3, 4, 1, 0] rfl)
def wpX3_product (w0 : Nat) (w1 : Nat) (w2 : Nat) (σ : CS) (Q : CS → Prop) : Prop := wpX3_product_0 w0 w1 w2 Q σ
theorem kX3_product {l : Launch} {D : va_G} {A : Nat → Prop} {g : mG} (hg : inj g) {w0 : Nat} {w1 : Nat} {w2 : Nat} (hw0 : okW w0) (hw1 : okW w1) (hw2 : okW w2) {σ : CS} {Q : CS → Prop} (h : wpX3_product w0 w1 w2 σ Q) : Met l yX3_product (Cond.code yX3_product cX3_product 12 none :: wsA) rmX3_product (mPc D (tyG g) A (cT g σ) [.ref (g.1 (4 * w0)), .ref (g.1 (4 * w1)), .ref (g.1 (4 * w2))]) (va_Qv Q (fun u t => wd D A (cT g u) t.heap) A) 0 0 A :=
  m_met (by decide +kernel) (Nat.le_of_ble_eq_true rfl) (fun p e s m below meth c X hr H locs ls hw hS hl => wX3_product_0 hg hw0 hw1 hw2 X hr σ h H locs ls hw hS (lv_sub hl [0, 1, 2] rfl))
theorem fX3_product : vfit yX3_product cX3_product 12 none 2 := ⟨mw_256, mw_257, mw_29, mw_258, by decide +kernel, by decide +kernel, by decide +kernel⟩
/-! BigPolys$Whole.window(II)J -/
def rmX3_window : Room := { frames := 0, cells := 0, slots := 0, locals := 0 }
def wpX3_window_50 (w0 : Nat) (x1 : Int32) (x2 : Int32) (Q : Int64 → CS → Prop) (i3 : Int32) (i4 : Int32) (σ : CS) : Prop :=
  Q ((((i3 <<< (x2 &&& 31)) ||| (jushr i4 ((31 : Int32) - x2))) &&& (2147483647 : Int32)).toInt64) σ
set_option maxRecDepth 100000 in
set_option maxHeartbeats 4000000 in
theorem wX3_window_50 {p : Program} {l : Launch} {e : Env} {s : State} {m : MethodId} {args : Array Value} {below : List Frame} {meth : Method} {c : Code} {D : va_G} {A : Nat → Prop} {g : mG} (hg : inj g) {w0 : Nat} {x1 : Int32} {x2 : Int32} (hw0 : okW w0) (X : cx p m meth c s args cX3_window 5 RX3 D (tyG g)) (hr : meth.sig.returnType = (some .long)) {Q : Int64 → CS → Prop} : ∀ (i3 : Int32) (i4 : Int32) (σ : CS), wpX3_window_50 w0 x1 x2 Q i3 i4 σ → cW p l e rmX3_window s m args below meth c (MQ below (va_Ql Q (fun u t => wd D A (cT g u) t.heap) A) args s 0 0 A) D A (cT g σ) 50 5 [(0, .ref (g.1 (4 * w0))), (1, .int x1), (2, .int x2), (3, .int i3), (4, .int i4)] := by
  obtain ⟨hx, hb, hml, hown, hts, hK, hlk⟩ := id X
  intro i3 i4 σ h H locs ls hw hS hl
  unfold wpX3_window_50 at h
  refine lv_iload_n hx hb dX3_window_50 rfl (lv_at hl 3 rfl) ?_
  refine lv_iload_n hx hb dX3_window_51 rfl (lv_at hl 2 rfl) ?_
  refine lv_ishl hx hb dX3_window_52 ?_
  refine lv_iload hx hb dX3_window_53 (lv_at hl 4 rfl) ?_
  refine lv_bipush (v := (31 : Int32)) hx hb dX3_window_55 (by decide) ?_
  refine lv_iload_n hx hb dX3_window_57 rfl (lv_at hl 2 rfl) ?_
  refine lv_isub hx hb dX3_window_58 ?_
  refine lv_iushr (v := jushr i4 ((31 : Int32) - x2)) hx hb dX3_window_59 rfl ?_
  refine lv_ior hx hb dX3_window_60 ?_
  refine lv_ldc (v := (2147483647 : Int32)) hx hb hown (hts _ mw_208) dX3_window_61 ?_
  refine lv_iand hx hb dX3_window_63 ?_
  refine lv_i2l (v := (((i3 <<< (x2 &&& 31)) ||| (jushr i4 ((31 : Int32) - x2))) &&& (2147483647 : Int32)).toInt64) hx hb dX3_window_64 rfl ?_
  exact m_lret X hr hw hS h dX3_window_65
def wpX3_window_47 (w0 : Nat) (x1 : Int32) (x2 : Int32) (Q : Int64 → CS → Prop) (i3 : Int32) (σ : CS) : Prop :=
  wpX3_window_50 w0 x1 x2 Q i3 (0 : Int32) σ
set_option maxRecDepth 100000 in
set_option maxHeartbeats 4000000 in
theorem wX3_window_47 {p : Program} {l : Launch} {e : Env} {s : State} {m : MethodId} {args : Array Value} {below : List Frame} {meth : Method} {c : Code} {D : va_G} {A : Nat → Prop} {g : mG} (hg : inj g) {w0 : Nat} {x1 : Int32} {x2 : Int32} (hw0 : okW w0) (X : cx p m meth c s args cX3_window 5 RX3 D (tyG g)) (hr : meth.sig.returnType = (some .long)) {Q : Int64 → CS → Prop} : ∀ (i3 : Int32) (σ : CS), wpX3_window_47 w0 x1 x2 Q i3 σ → cW p l e rmX3_window s m args below meth c (MQ below (va_Ql Q (fun u t => wd D A (cT g u) t.heap) A) args s 0 0 A) D A (cT g σ) 47 5 [(0, .ref (g.1 (4 * w0))), (1, .int x1), (2, .int x2), (3, .int i3)] := by
  obtain ⟨hx, hb, hml, hown, hts, hK, hlk⟩ := id X
  intro i3 σ h H locs ls hw hS hl
  unfold wpX3_window_47 at h
  refine lv_iconst (v := (0 : Int32)) hx hb dX3_window_47 (by decide) ?_
  refine lv_istore (lv' := [(4, .int (0 : Int32)), (0, .ref (g.1 (4 * w0))), (1, .int x1), (2, .int x2), (3, .int i3)]) hx hb dX3_window_48 hl (by decide) rfl (fun ls hl => ?_)
  exact wX3_window_50 hg hw0 X hr i3 (0 : Int32) _ h H locs ls hw hS (lv_sub hl [1, 2, 3, 4, 0] rfl)
def wpX3_window_23 (w0 : Nat) (x1 : Int32) (x2 : Int32) (Q : Int64 → CS → Prop) (i3 : Int32) (σ : CS) : Prop :=
  (x1 < (1 : Int32) →
    wpX3_window_47 w0 x1 x2 Q i3 σ) ∧
  (¬ x1 < (1 : Int32) →
    ((cS σ w0) < x1 →
      wpX3_window_47 w0 x1 x2 Q i3 σ) ∧
    (¬ (cS σ w0) < x1 →
      vp_in (x1 - (1 : Int32)) (capW w0) ∧ (
      ∀ a1 : Int32, a1 = cF σ w0 (x1 - (1 : Int32)).toNatClampNeg →
      wpX3_window_50 w0 x1 x2 Q i3 a1 σ)))
set_option maxRecDepth 100000 in
set_option maxHeartbeats 4000000 in
theorem wX3_window_23 {p : Program} {l : Launch} {e : Env} {s : State} {m : MethodId} {args : Array Value} {below : List Frame} {meth : Method} {c : Code} {D : va_G} {A : Nat → Prop} {g : mG} (hg : inj g) {w0 : Nat} {x1 : Int32} {x2 : Int32} (hw0 : okW w0) (X : cx p m meth c s args cX3_window 5 RX3 D (tyG g)) (hr : meth.sig.returnType = (some .long)) {Q : Int64 → CS → Prop} : ∀ (i3 : Int32) (σ : CS), wpX3_window_23 w0 x1 x2 Q i3 σ → cW p l e rmX3_window s m args below meth c (MQ below (va_Ql Q (fun u t => wd D A (cT g u) t.heap) A) args s 0 0 A) D A (cT g σ) 23 5 [(0, .ref (g.1 (4 * w0))), (1, .int x1), (2, .int x2), (3, .int i3)] := by
  obtain ⟨hx, hb, hml, hown, hts, hK, hlk⟩ := id X
  intro i3 σ h H locs ls hw hS hl
  unfold wpX3_window_23 at h
  refine lv_iload_n hx hb dX3_window_23 rfl (lv_at hl 1 rfl) ?_
  refine lv_iconst (v := (1 : Int32)) hx hb dX3_window_24 (by decide) ?_
  refine lv_icmp_lt (tgt := 47) hx hb dX3_window_25 (by decide) (fun hc => ?_) (fun hc => ?_)
  · replace h := h.1 hc
    exact wX3_window_47 hg hw0 X hr i3 _ h H locs ls hw hS (lv_sub hl [0, 1, 2, 3] rfl)
  · replace h := h.2 hc
    refine lv_iload_n hx hb dX3_window_28 rfl (lv_at hl 1 rfl) ?_
    refine lv_aload_n hx hb dX3_window_29 rfl (lv_at hl 0 rfl) ?_
    refine m_get (v := .int (cS σ w0)) X hw (tW hw0) rfl inA_X3 1 (by decide) mw_100 rfl dX3_window_30 ?_
    refine lv_icmp_gt (tgt := 47) hx hb dX3_window_33 (by decide) (fun hc => ?_) (fun hc => ?_)
    · replace h := h.1 hc
      exact wX3_window_47 hg hw0 X hr i3 _ h H locs ls hw hS (lv_sub hl [0, 1, 2, 3] rfl)
    · replace h := h.2 hc
      refine lv_aload_n hx hb dX3_window_36 rfl (lv_at hl 0 rfl) ?_
      refine m_get (v := .ref (g.1 (4 * w0 + 1))) X hw (tW hw0) rfl inA_X3 0 (by decide) mw_36 rfl dX3_window_37 ?_
      refine lv_iload_n hx hb dX3_window_40 rfl (lv_at hl 1 rfl) ?_
      refine lv_iconst (v := (1 : Int32)) hx hb dX3_window_41 (by decide) ?_
      refine lv_isub hx hb dX3_window_42 ?_
      obtain ⟨hi, h⟩ := h
      refine m_iald X hw (tD hw0) 0 rfl hi dX3_window_43 ?_
      refine lv_goto (tgt := 48) hx hb dX3_window_44 (by decide) ?_
      refine lv_topi (fun a1 ea1 => ?_)
      replace h := h a1 ea1
      refine lv_istore (lv' := [(4, .int a1), (0, .ref (g.1 (4 * w0))), (1, .int x1), (2, .int x2), (3, .int i3)]) hx hb dX3_window_48 hl (by decide) rfl (fun ls hl => ?_)
      exact wX3_window_50 hg hw0 X hr i3 a1 _ h H locs ls hw hS (lv_sub hl [1, 2, 3, 4, 0] rfl)
def wpX3_window_21 (w0 : Nat) (x1 : Int32) (x2 : Int32) (Q : Int64 → CS → Prop) (σ : CS) : Prop :=
  wpX3_window_23 w0 x1 x2 Q (0 : Int32) σ
set_option maxRecDepth 100000 in
set_option maxHeartbeats 4000000 in
theorem wX3_window_21 {p : Program} {l : Launch} {e : Env} {s : State} {m : MethodId} {args : Array Value} {below : List Frame} {meth : Method} {c : Code} {D : va_G} {A : Nat → Prop} {g : mG} (hg : inj g) {w0 : Nat} {x1 : Int32} {x2 : Int32} (hw0 : okW w0) (X : cx p m meth c s args cX3_window 5 RX3 D (tyG g)) (hr : meth.sig.returnType = (some .long)) {Q : Int64 → CS → Prop} : ∀ (σ : CS), wpX3_window_21 w0 x1 x2 Q σ → cW p l e rmX3_window s m args below meth c (MQ below (va_Ql Q (fun u t => wd D A (cT g u) t.heap) A) args s 0 0 A) D A (cT g σ) 21 5 [(0, .ref (g.1 (4 * w0))), (1, .int x1), (2, .int x2)] := by
  obtain ⟨hx, hb, hml, hown, hts, hK, hlk⟩ := id X
  intro σ h H locs ls hw hS hl
  unfold wpX3_window_21 at h
  refine lv_iconst (v := (0 : Int32)) hx hb dX3_window_21 (by decide) ?_
  refine lv_istore_n (lv' := [(3, .int (0 : Int32)), (0, .ref (g.1 (4 * w0))), (1, .int x1), (2, .int x2)]) hx hb dX3_window_22 rfl hl (by decide) rfl (fun ls hl => ?_)
  exact wX3_window_23 hg hw0 X hr (0 : Int32) _ h H locs ls hw hS (lv_sub hl [1, 2, 3, 0] rfl)
def wpX3_window_0 (w0 : Nat) (x1 : Int32) (x2 : Int32) (Q : Int64 → CS → Prop) (σ : CS) : Prop :=
  (x1 < 0 →
    wpX3_window_21 w0 x1 x2 Q σ) ∧
  (¬ x1 < 0 →
    ((cS σ w0) ≤ x1 →
      wpX3_window_21 w0 x1 x2 Q σ) ∧
    (¬ (cS σ w0) ≤ x1 →
      vp_in x1 (capW w0) ∧ (
      ∀ a2 : Int32, a2 = cF σ w0 x1.toNatClampNeg →
      wpX3_window_23 w0 x1 x2 Q a2 σ)))
set_option maxRecDepth 100000 in
set_option maxHeartbeats 4000000 in
theorem wX3_window_0 {p : Program} {l : Launch} {e : Env} {s : State} {m : MethodId} {args : Array Value} {below : List Frame} {meth : Method} {c : Code} {D : va_G} {A : Nat → Prop} {g : mG} (hg : inj g) {w0 : Nat} {x1 : Int32} {x2 : Int32} (hw0 : okW w0) (X : cx p m meth c s args cX3_window 5 RX3 D (tyG g)) (hr : meth.sig.returnType = (some .long)) {Q : Int64 → CS → Prop} : ∀ (σ : CS), wpX3_window_0 w0 x1 x2 Q σ → cW p l e rmX3_window s m args below meth c (MQ below (va_Ql Q (fun u t => wd D A (cT g u) t.heap) A) args s 0 0 A) D A (cT g σ) 0 5 [(0, .ref (g.1 (4 * w0))), (1, .int x1), (2, .int x2)] := by
  obtain ⟨hx, hb, hml, hown, hts, hK, hlk⟩ := id X
  intro σ h H locs ls hw hS hl
  unfold wpX3_window_0 at h
  refine lv_iload_n hx hb dX3_window_0 rfl (lv_at hl 1 rfl) ?_
  refine lv_if_lt (tgt := 21) hx hb dX3_window_1 (by decide) (fun hc => ?_) (fun hc => ?_)
  · replace h := h.1 hc
    exact wX3_window_21 hg hw0 X hr _ h H locs ls hw hS (lv_sub hl [0, 1, 2] rfl)
  · replace h := h.2 hc
    refine lv_iload_n hx hb dX3_window_4 rfl (lv_at hl 1 rfl) ?_
    refine lv_aload_n hx hb dX3_window_5 rfl (lv_at hl 0 rfl) ?_
    refine m_get (v := .int (cS σ w0)) X hw (tW hw0) rfl inA_X3 1 (by decide) mw_100 rfl dX3_window_6 ?_
    refine lv_icmp_ge (tgt := 21) hx hb dX3_window_9 (by decide) (fun hc => ?_) (fun hc => ?_)
    · replace h := h.1 hc
      exact wX3_window_21 hg hw0 X hr _ h H locs ls hw hS (lv_sub hl [0, 1, 2] rfl)
    · replace h := h.2 hc
      refine lv_aload_n hx hb dX3_window_12 rfl (lv_at hl 0 rfl) ?_
      refine m_get (v := .ref (g.1 (4 * w0 + 1))) X hw (tW hw0) rfl inA_X3 0 (by decide) mw_36 rfl dX3_window_13 ?_
      refine lv_iload_n hx hb dX3_window_16 rfl (lv_at hl 1 rfl) ?_
      obtain ⟨hi, h⟩ := h
      refine m_iald X hw (tD hw0) 0 rfl hi dX3_window_17 ?_
      refine lv_goto (tgt := 22) hx hb dX3_window_18 (by decide) ?_
      refine lv_topi (fun a2 ea2 => ?_)
      replace h := h a2 ea2
      refine lv_istore_n (lv' := [(3, .int a2), (0, .ref (g.1 (4 * w0))), (1, .int x1), (2, .int x2)]) hx hb dX3_window_22 rfl hl (by decide) rfl (fun ls hl => ?_)
      exact wX3_window_23 hg hw0 X hr a2 _ h H locs ls hw hS (lv_sub hl [1, 2, 3, 0] rfl)
def wpX3_window (w0 : Nat) (x1 : Int32) (x2 : Int32) (σ : CS) (Q : Int64 → CS → Prop) : Prop := wpX3_window_0 w0 x1 x2 Q σ
theorem kX3_window {l : Launch} {D : va_G} {A : Nat → Prop} {g : mG} (hg : inj g) {w0 : Nat} {x1 : Int32} {x2 : Int32} (hw0 : okW w0) {σ : CS} {Q : Int64 → CS → Prop} (h : wpX3_window w0 x1 x2 σ Q) : Met l yX3_window (Cond.code yX3_window cX3_window 5 (some .long) :: wsA) rmX3_window (mPc D (tyG g) A (cT g σ) [.ref (g.1 (4 * w0)), .int x1, .int x2]) (va_Ql Q (fun u t => wd D A (cT g u) t.heap) A) 0 0 A :=
  m_met (by decide +kernel) (Nat.le_of_ble_eq_true rfl) (fun p e s m below meth c X hr H locs ls hw hS hl => wX3_window_0 hg hw0 X hr σ h H locs ls hw hS (lv_sub hl [0, 1, 2] rfl))
theorem fX3_window : vfit yX3_window cX3_window 5 (some .long) 2 := ⟨mw_366, mw_367, mw_29, mw_368, by decide +kernel, by decide +kernel, by decide +kernel⟩
/-! BigPolys$Whole.guess(JJJJ)J -/
def rmX3_guess : Room := { frames := 1, cells := 0, slots := 0, locals := 24 }
def wpX3_guess_86 (y1 : Int64) (y2 : Int64) (y3 : Int64) (y4 : Int64) (Q : Int64 → CS → Prop) (l8 : Int64) (σ : CS) : Prop :=
  Q l8 σ
set_option maxRecDepth 100000 in
set_option maxHeartbeats 4000000 in
theorem wX3_guess_86 {p : Program} {l : Launch} {e : Env} {s : State} {m : MethodId} {args : Array Value} {below : List Frame} {meth : Method} {c : Code} {D : va_G} {A : Nat → Prop} {g : mG} (hg : inj g) {y1 : Int64} {y2 : Int64} {y3 : Int64} {y4 : Int64} (X : cx p m meth c s args cX3_guess 13 RX3 D (tyG g)) (hr : meth.sig.returnType = (some .long)) {Q : Int64 → CS → Prop} : ∀ (l8 : Int64) (σ : CS), wpX3_guess_86 y1 y2 y3 y4 Q l8 σ → cW p l e rmX3_guess s m args below meth c (MQ below (va_Ql Q (fun u t => wd D A (cT g u) t.heap) A) args s 0 0 A) D A (cT g σ) 86 13 [(0, .long y1), (2, .long y2), (4, .long y3), (6, .long y4), (8, .long l8)] := by
  obtain ⟨hx, hb, hml, hown, hts, hK, hlk⟩ := id X
  intro l8 σ h H locs ls hw hS hl
  unfold wpX3_guess_86 at h
  refine lv_lload hx hb dX3_guess_86 (lv_at hl 4 rfl) ?_
  exact m_lret X hr hw hS h dX3_guess_88
def wbX3_guess_33 (y1 : Int64) (y2 : Int64) (y3 : Int64) (y4 : Int64) (Q : Int64 → CS → Prop) (N33 : Int64 → Int64 → Int32 → CS → Prop) (l8 : Int64) (l10 : Int64) (i12 : Int32) (σ : CS) : Prop :=
  ((2 : Int32) ≤ i12 →
    wpX3_guess_86 y1 y2 y3 y4 Q l8 σ) ∧
  (¬ (2 : Int32) ≤ i12 →
    (0 < (lg_cmp l10 (2147483647 : Int64)) →
      wpX3_guess_86 y1 y2 y3 y4 Q l8 σ) ∧
    (¬ 0 < (lg_cmp l10 (2147483647 : Int64)) →
      (0 < (lg_cmp (l8 * y4) ((jlshl l10 (31 : Int32)) ||| y2)) →
        ∀ b1 : Int64, b1 = l8 - (1 : Int64) →
        ∀ b2 : Int64, b2 = l10 + y3 →
        ∀ a3 : Int32, a3 = i12 + (1 : Int32) →
        N33 b1 b2 a3 σ) ∧
      (¬ 0 < (lg_cmp (l8 * y4) ((jlshl l10 (31 : Int32)) ||| y2)) →
        Q l8 σ)))
set_option maxRecDepth 100000 in
set_option maxHeartbeats 4000000 in
theorem wX3_guess_33 {p : Program} {l : Launch} {e : Env} {s : State} {m : MethodId} {args : Array Value} {below : List Frame} {meth : Method} {c : Code} {D : va_G} {A : Nat → Prop} {g : mG} (hg : inj g) {y1 : Int64} {y2 : Int64} {y3 : Int64} {y4 : Int64} (X : cx p m meth c s args cX3_guess 13 RX3 D (tyG g)) (hr : meth.sig.returnType = (some .long)) {Q : Int64 → CS → Prop} : ∀ (n : Nat) (l8 : Int64) (l10 : Int64) (i12 : Int32) (σ : CS), lq4 (wbX3_guess_33 y1 y2 y3 y4 Q) n l8 l10 i12 σ → cW p l e rmX3_guess s m args below meth c (MQ below (va_Ql Q (fun u t => wd D A (cT g u) t.heap) A) args s 0 0 A) D A (cT g σ) 33 13 [(0, .long y1), (2, .long y2), (4, .long y3), (6, .long y4), (8, .long l8), (10, .long l10), (12, .int i12)] := by
  obtain ⟨hx, hb, hml, hown, hts, hK, hlk⟩ := id X
  intro n
  induction n with
  | zero =>
    intro l8 l10 i12 σ h
    exact h.elim
  | succ n hN33 =>
    intro l8 l10 i12 σ h H locs ls hw hS hl
    replace h : wbX3_guess_33 y1 y2 y3 y4 Q (lq4 (wbX3_guess_33 y1 y2 y3 y4 Q) n) l8 l10 i12 σ := h
    unfold wbX3_guess_33 at h
    refine lv_iload hx hb dX3_guess_33 (lv_at hl 6 rfl) ?_
    refine lv_iconst (v := (2 : Int32)) hx hb dX3_guess_35 (by decide) ?_
    refine lv_icmp_ge (tgt := 86) hx hb dX3_guess_36 (by decide) (fun hc => ?_) (fun hc => ?_)
    · replace h := h.1 hc
      exact wX3_guess_86 hg X hr l8 _ h H locs ls hw hS (lv_sub hl [0, 1, 2, 3, 4] rfl)
    · replace h := h.2 hc
      refine lv_lload hx hb dX3_guess_39 (lv_at hl 5 rfl) ?_
      refine lv_ldc2 (v := (2147483647 : Int64)) hx hb hown (hts _ mw_259) dX3_guess_41 ?_
      refine W.lcmp hx hb dX3_guess_44 ?_
      refine lv_if_gt (tgt := 86) hx hb dX3_guess_45 (by decide) (fun hc => ?_) (fun hc => ?_)
      · replace h := h.1 hc
        exact wX3_guess_86 hg X hr l8 _ h H locs ls hw hS (lv_sub hl [0, 1, 2, 3, 4] rfl)
      · replace h := h.2 hc
        refine lv_lload hx hb dX3_guess_48 (lv_at hl 4 rfl) ?_
        refine lv_lload hx hb dX3_guess_50 (lv_at hl 3 rfl) ?_
        refine lv_lmul hx hb dX3_guess_52 ?_
        refine lv_lload hx hb dX3_guess_53 (lv_at hl 5 rfl) ?_
        refine lv_bipush (v := (31 : Int32)) hx hb dX3_guess_55 (by decide) ?_
        refine lv_lshl (v := jlshl l10 (31 : Int32)) hx hb dX3_guess_57 rfl ?_
        refine lv_lload_n hx hb dX3_guess_58 rfl (lv_at hl 1 rfl) ?_
        refine lv_lor hx hb dX3_guess_59 ?_
        refine W.lcmp hx hb dX3_guess_60 ?_
        refine lv_if_gt (tgt := 67) hx hb dX3_guess_61 (by decide) (fun hc => ?_) (fun hc => ?_)
        · replace h := h.1 hc
          refine lv_lload hx hb dX3_guess_67 (lv_at hl 4 rfl) ?_
          refine lv_lconst (v := (1 : Int64)) hx hb dX3_guess_69 (by decide) ?_
          refine lv_lsub hx hb dX3_guess_70 ?_
          refine lv_topl (fun b1 eb1 => ?_)
          replace h := h b1 eb1
          refine lv_lstore (lv' := [(8, .long b1), (0, .long y1), (2, .long y2), (4, .long y3), (6, .long y4), (10, .long l10), (12, .int i12)]) hx hb dX3_guess_71 hl (by decide) rfl (fun ls hl => ?_)
          refine lv_lload hx hb dX3_guess_73 (lv_at hl 5 rfl) ?_
          refine lv_lload hx hb dX3_guess_75 (lv_at hl 3 rfl) ?_
          refine lv_ladd hx hb dX3_guess_77 ?_
          refine lv_topl (fun b2 eb2 => ?_)
          replace h := h b2 eb2
          refine lv_lstore (lv' := [(10, .long b2), (8, .long b1), (0, .long y1), (2, .long y2), (4, .long y3), (6, .long y4), (12, .int i12)]) hx hb dX3_guess_78 hl (by decide) rfl (fun ls hl => ?_)
          obtain ⟨a3, ea3⟩ : ∃ z : Int32, z = i12 + (1 : Int32) := ⟨_, rfl⟩
          replace h := h a3 ea3
          refine lv_iinc (v := a3) (lv' := [(12, .int a3), (10, .long b2), (8, .long b1), (0, .long y1), (2, .long y2), (4, .long y3), (6, .long y4)]) hx hb dX3_guess_80 hl (k := 6) rfl (by rw [ea3]; rfl) (by decide) rfl (fun ls hl => ?_)
          refine lv_goto (tgt := 33) hx hb dX3_guess_83 (by decide) ?_
          exact hN33 b1 b2 a3 _ h H locs ls hw hS (lv_sub hl [3, 4, 5, 6, 2, 1, 0] rfl)
        · replace h := h.2 hc
          refine lv_lload hx hb dX3_guess_64 (lv_at hl 4 rfl) ?_
          exact m_lret X hr hw hS h dX3_guess_66
def wpX3_guess_0 (y1 : Int64) (y2 : Int64) (y3 : Int64) (y4 : Int64) (Q : Int64 → CS → Prop) (σ : CS) : Prop :=
  (0 < (lg_cmp y3 (0 : Int64)) →
    ¬ y3 = 0 ∧ (
    ∀ b4 : Int64, b4 = (if (2147483647 : Int64) < (y1 / y3) then (2147483647 : Int64) else (y1 / y3)) →
    ∀ b5 : Int64, b5 = y1 - (b4 * y3) →
    ∃ n, lq4 (wbX3_guess_33 y1 y2 y3 y4 Q) n b4 b5 (0 : Int32) σ)) ∧
  (¬ 0 < (lg_cmp y3 (0 : Int64)) →
    Q (0 : Int64) σ)
set_option maxRecDepth 100000 in
set_option maxHeartbeats 4000000 in
theorem wX3_guess_0 {p : Program} {l : Launch} {e : Env} {s : State} {m : MethodId} {args : Array Value} {below : List Frame} {meth : Method} {c : Code} {D : va_G} {A : Nat → Prop} {g : mG} (hg : inj g) {y1 : Int64} {y2 : Int64} {y3 : Int64} {y4 : Int64} (X : cx p m meth c s args cX3_guess 13 RX3 D (tyG g)) (hr : meth.sig.returnType = (some .long)) {Q : Int64 → CS → Prop} : ∀ (σ : CS), wpX3_guess_0 y1 y2 y3 y4 Q σ → cW p l e rmX3_guess s m args below meth c (MQ below (va_Ql Q (fun u t => wd D A (cT g u) t.heap) A) args s 0 0 A) D A (cT g σ) 0 13 [(0, .long y1), (2, .long y2), (4, .long y3), (6, .long y4)] := by
  obtain ⟨hx, hb, hml, hown, hts, hK, hlk⟩ := id X
  intro σ h H locs ls hw hS hl
  unfold wpX3_guess_0 at h
  refine lv_lload hx hb dX3_guess_0 (lv_at hl 2 rfl) ?_
  refine lv_lconst (v := (0 : Int64)) hx hb dX3_guess_2 (by decide) ?_
  refine W.lcmp hx hb dX3_guess_3 ?_
  refine lv_if_gt (tgt := 9) hx hb dX3_guess_4 (by decide) (fun hc => ?_) (fun hc => ?_)
  · replace h := h.1 hc
    refine lv_lload_n hx hb dX3_guess_9 rfl (lv_at hl 0 rfl) ?_
    refine lv_lload hx hb dX3_guess_10 (lv_at hl 2 rfl) ?_
    obtain ⟨hz, h⟩ := h
    refine lv_ldiv hx hb dX3_guess_12 hz ?_
    refine lv_ldc2 (v := (2147483647 : Int64)) hx hb hown (hts _ mw_259) dX3_guess_13 ?_
    refine va_mmin_long hx hb (hml.trans hl.1.symm) hown (hts _ mw_372) (hts _ mw_373) (hts _ mw_54) (hts _ mw_374) (Nat.le_of_ble_eq_true rfl) (Nat.le_of_ble_eq_true rfl) (Nat.zero_le _) (Nat.zero_le _) dX3_guess_16 ?_
    refine lv_topl (fun b4 eb4 => ?_)
    replace h := h b4 eb4
    refine lv_lstore (lv' := [(8, .long b4), (0, .long y1), (2, .long y2), (4, .long y3), (6, .long y4)]) hx hb dX3_guess_19 hl (by decide) rfl (fun ls hl => ?_)
    refine lv_lload_n hx hb dX3_guess_21 rfl (lv_at hl 1 rfl) ?_
    refine lv_lload hx hb dX3_guess_22 (lv_at hl 0 rfl) ?_
    refine lv_lload hx hb dX3_guess_24 (lv_at hl 3 rfl) ?_
    refine lv_lmul hx hb dX3_guess_26 ?_
    refine lv_lsub hx hb dX3_guess_27 ?_
    refine lv_topl (fun b5 eb5 => ?_)
    replace h := h b5 eb5
    refine lv_lstore (lv' := [(10, .long b5), (8, .long b4), (0, .long y1), (2, .long y2), (4, .long y3), (6, .long y4)]) hx hb dX3_guess_28 hl (by decide) rfl (fun ls hl => ?_)
    refine lv_iconst (v := (0 : Int32)) hx hb dX3_guess_30 (by decide) ?_
    refine lv_istore (lv' := [(12, .int (0 : Int32)), (10, .long b5), (8, .long b4), (0, .long y1), (2, .long y2), (4, .long y3), (6, .long y4)]) hx hb dX3_guess_31 hl (by decide) rfl (fun ls hl => ?_)
    obtain ⟨n9, h⟩ := h
    exact wX3_guess_33 hg X hr n9 b4 b5 (0 : Int32) _ h H locs ls hw hS (lv_sub hl [3, 4, 5, 6, 2, 1, 0] rfl)
  · replace h := h.2 hc
    refine lv_lconst (v := (0 : Int64)) hx hb dX3_guess_7 (by decide) ?_
    exact m_lret X hr hw hS h dX3_guess_8
def wpX3_guess (y1 : Int64) (y2 : Int64) (y3 : Int64) (y4 : Int64) (σ : CS) (Q : Int64 → CS → Prop) : Prop := wpX3_guess_0 y1 y2 y3 y4 Q σ
theorem kX3_guess {l : Launch} {D : va_G} {A : Nat → Prop} {g : mG} (hg : inj g) {y1 : Int64} {y2 : Int64} {y3 : Int64} {y4 : Int64} {σ : CS} {Q : Int64 → CS → Prop} (h : wpX3_guess y1 y2 y3 y4 σ Q) : Met l yX3_guess (Cond.code yX3_guess cX3_guess 13 (some .long) :: wsA) rmX3_guess (mPc D (tyG g) A (cT g σ) [.long y1, .long y2, .long y3, .long y4]) (va_Ql Q (fun u t => wd D A (cT g u) t.heap) A) 0 0 A :=
  m_met (by decide +kernel) (Nat.le_of_ble_eq_true rfl) (fun p e s m below meth c X hr H locs ls hw hS hl => wX3_guess_0 hg X hr σ h H locs ls hw hS (lv_sub hl [0, 1, 2, 3] rfl))
theorem fX3_guess : sfit yX3_guess cX3_guess 13 (some .long) 4 := ⟨mw_370, mw_29, mw_371, by decide +kernel, by decide +kernel, by decide +kernel⟩
/-! BigPolys$Whole.takesTooMuch(LBigPolys$Whole;JI)Z -/
def rmX3_takesTooMuch : Room := { frames := 0, cells := 0, slots := 0, locals := 0 }
def wpX3_takesTooMuch_129 (w0 : Nat) (w1 : Nat) (y2 : Int64) (x3 : Int32) (Q : Int32 → CS → Prop) (l5 : Int64) (σ : CS) : Prop :=
  (0 ≤ (lg_cmp l5 (0 : Int64)) →
    Q (0 : Int32) σ) ∧
  (¬ 0 ≤ (lg_cmp l5 (0 : Int64)) →
    Q (1 : Int32) σ)
set_option maxRecDepth 100000 in
set_option maxHeartbeats 4000000 in
theorem wX3_takesTooMuch_129 {p : Program} {l : Launch} {e : Env} {s : State} {m : MethodId} {args : Array Value} {below : List Frame} {meth : Method} {c : Code} {D : va_G} {A : Nat → Prop} {g : mG} (hg : inj g) {w0 : Nat} {w1 : Nat} {y2 : Int64} {x3 : Int32} (hw0 : okW w0) (hw1 : okW w1) (X : cx p m meth c s args cX3_takesTooMuch 10 RX3 D (tyG g)) (hr : meth.sig.returnType = (some .boolean)) {Q : Int32 → CS → Prop} : ∀ (l5 : Int64) (σ : CS), wpX3_takesTooMuch_129 w0 w1 y2 x3 Q l5 σ → cW p l e rmX3_takesTooMuch s m args below meth c (MQ below (va_Qi Q (fun u t => wd D A (cT g u) t.heap) A) args s 0 0 A) D A (cT g σ) 129 10 [(0, .ref (g.1 (4 * w0))), (1, .ref (g.1 (4 * w1))), (2, .long y2), (4, .int x3), (5, .long l5)] := by
  obtain ⟨hx, hb, hml, hown, hts, hK, hlk⟩ := id X
  intro l5 σ h H locs ls hw hS hl
  unfold wpX3_takesTooMuch_129 at h
  refine lv_lload hx hb dX3_takesTooMuch_129 (lv_at hl 4 rfl) ?_
  refine lv_lconst (v := (0 : Int64)) hx hb dX3_takesTooMuch_131 (by decide) ?_
  refine W.lcmp hx hb dX3_takesTooMuch_132 ?_
  refine lv_if_ge (tgt := 140) hx hb dX3_takesTooMuch_133 (by decide) (fun hc => ?_) (fun hc => ?_)
  · replace h := h.1 hc
    refine lv_iconst (v := (0 : Int32)) hx hb dX3_takesTooMuch_140 (by decide) ?_
    exact m_zret X hr rfl hw hS h dX3_takesTooMuch_141
  · replace h := h.2 hc
    refine lv_iconst (v := (1 : Int32)) hx hb dX3_takesTooMuch_136 (by decide) ?_
    refine lv_goto (tgt := 141) hx hb dX3_takesTooMuch_137 (by decide) ?_
    exact m_zret X hr rfl hw hS h dX3_takesTooMuch_141
def wpX3_takesTooMuch_84 (w0 : Nat) (w1 : Nat) (y2 : Int64) (x3 : Int32) (Q : Int32 → CS → Prop) (l5 : Int64) (σ : CS) : Prop :=
  ∀ a1 : Int32, a1 = x3 + (cS σ w1) →
  ((cS σ w0) ≤ a1 →
    wpX3_takesTooMuch_129 w0 w1 y2 x3 Q l5 σ) ∧
  (¬ (cS σ w0) ≤ a1 →
    vp_in a1 (capW w0) ∧ (
    ∀ b2 : Int64, b2 = l5 + ((cF σ w0 a1.toNatClampNeg).toInt64) →
    vp_in a1 (capW w0) ∧ (
    wpX3_takesTooMuch_129 w0 w1 y2 x3 Q b2 (sFi σ w0 a1 ((b2 &&& (2147483647 : Int64)).toInt32)))))
set_option maxRecDepth 100000 in
set_option maxHeartbeats 4000000 in
theorem wX3_takesTooMuch_84 {p : Program} {l : Launch} {e : Env} {s : State} {m : MethodId} {args : Array Value} {below : List Frame} {meth : Method} {c : Code} {D : va_G} {A : Nat → Prop} {g : mG} (hg : inj g) {w0 : Nat} {w1 : Nat} {y2 : Int64} {x3 : Int32} (hw0 : okW w0) (hw1 : okW w1) (X : cx p m meth c s args cX3_takesTooMuch 10 RX3 D (tyG g)) (hr : meth.sig.returnType = (some .boolean)) {Q : Int32 → CS → Prop} : ∀ (l5 : Int64) (σ : CS), wpX3_takesTooMuch_84 w0 w1 y2 x3 Q l5 σ → cW p l e rmX3_takesTooMuch s m args below meth c (MQ below (va_Qi Q (fun u t => wd D A (cT g u) t.heap) A) args s 0 0 A) D A (cT g σ) 84 10 [(0, .ref (g.1 (4 * w0))), (1, .ref (g.1 (4 * w1))), (2, .long y2), (4, .int x3), (5, .long l5)] := by
  obtain ⟨hx, hb, hml, hown, hts, hK, hlk⟩ := id X
  intro l5 σ h H locs ls hw hS hl
  unfold wpX3_takesTooMuch_84 at h
  refine lv_iload hx hb dX3_takesTooMuch_84 (lv_at hl 3 rfl) ?_
  refine lv_aload_n hx hb dX3_takesTooMuch_86 rfl (lv_at hl 1 rfl) ?_
  refine m_get (v := .int (cS σ w1)) X hw (tW hw1) rfl inA_X3 1 (by decide) mw_100 rfl dX3_takesTooMuch_87 ?_
  refine lv_iadd hx hb dX3_takesTooMuch_90 ?_
  refine lv_topi (fun a1 ea1 => ?_)
  replace h := h a1 ea1
  refine lv_istore (lv' := [(7, .int a1), (0, .ref (g.1 (4 * w0))), (1, .ref (g.1 (4 * w1))), (2, .long y2), (4, .int x3), (5, .long l5)]) hx hb dX3_takesTooMuch_91 hl (by decide) rfl (fun ls hl => ?_)
  refine lv_iload hx hb dX3_takesTooMuch_93 (lv_at hl 0 rfl) ?_
  refine lv_aload_n hx hb dX3_takesTooMuch_95 rfl (lv_at hl 1 rfl) ?_
  refine m_get (v := .int (cS σ w0)) X hw (tW hw0) rfl inA_X3 1 (by decide) mw_100 rfl dX3_takesTooMuch_96 ?_
  refine lv_icmp_ge (tgt := 129) hx hb dX3_takesTooMuch_99 (by decide) (fun hc => ?_) (fun hc => ?_)
  · replace h := h.1 hc
    exact wX3_takesTooMuch_129 hg hw0 hw1 X hr l5 _ h H locs ls hw hS (lv_sub hl [1, 2, 3, 4, 5] rfl)
  · replace h := h.2 hc
    refine lv_lload hx hb dX3_takesTooMuch_102 (lv_at hl 5 rfl) ?_
    refine lv_aload_n hx hb dX3_takesTooMuch_104 rfl (lv_at hl 1 rfl) ?_
    refine m_get (v := .ref (g.1 (4 * w0 + 1))) X hw (tW hw0) rfl inA_X3 0 (by decide) mw_36 rfl dX3_takesTooMuch_105 ?_
    refine lv_iload hx hb dX3_takesTooMuch_108 (lv_at hl 0 rfl) ?_
    obtain ⟨hi, h⟩ := h
    refine m_iald X hw (tD hw0) 0 rfl hi dX3_takesTooMuch_110 ?_
    refine lv_i2l (v := (cF σ w0 a1.toNatClampNeg).toInt64) hx hb dX3_takesTooMuch_111 rfl ?_
    refine lv_ladd hx hb dX3_takesTooMuch_112 ?_
    refine lv_topl (fun b2 eb2 => ?_)
    replace h := h b2 eb2
    refine lv_lstore (lv' := [(5, .long b2), (7, .int a1), (0, .ref (g.1 (4 * w0))), (1, .ref (g.1 (4 * w1))), (2, .long y2), (4, .int x3)]) hx hb dX3_takesTooMuch_113 hl (by decide) rfl (fun ls hl => ?_)
    refine lv_aload_n hx hb dX3_takesTooMuch_115 rfl (lv_at hl 2 rfl) ?_
    refine m_get (v := .ref (g.1 (4 * w0 + 1))) X hw (tW hw0) rfl inA_X3 0 (by decide) mw_36 rfl dX3_takesTooMuch_116 ?_
    refine lv_iload hx hb dX3_takesTooMuch_119 (lv_at hl 1 rfl) ?_
    refine lv_lload hx hb dX3_takesTooMuch_121 (lv_at hl 0 rfl) ?_
    refine lv_ldc2 (v := (2147483647 : Int64)) hx hb hown (hts _ mw_259) dX3_takesTooMuch_123 ?_
    refine lv_land hx hb dX3_takesTooMuch_126 ?_
    refine lv_l2i (v := (b2 &&& (2147483647 : Int64)).toInt32) hx hb dX3_takesTooMuch_127 rfl ?_
    obtain ⟨hi, h⟩ := h
    refine m_iast (T' := cT g (sFi σ w0 a1 ((b2 &&& (2147483647 : Int64)).toInt32))) X hw hS (tD hw0) 0 rfl hi (uF hg) dX3_takesTooMuch_128 (fun H locs hw hS => ?_)
    exact wX3_takesTooMuch_129 hg hw0 hw1 X hr b2 _ h H locs ls hw hS (lv_sub hl [2, 3, 4, 5, 0] rfl)
def wbX3_takesTooMuch_6 (w0 : Nat) (w1 : Nat) (y2 : Int64) (x3 : Int32) (Q : Int32 → CS → Prop) (N6 : Int64 → Int32 → CS → Prop) (l5 : Int64) (i7 : Int32) (σ : CS) : Prop :=
  ((cS σ w1) ≤ i7 →
    wpX3_takesTooMuch_84 w0 w1 y2 x3 Q l5 σ) ∧
  (¬ (cS σ w1) ≤ i7 →
    ((cS σ w0) ≤ (x3 + i7) →
      wpX3_takesTooMuch_84 w0 w1 y2 x3 Q l5 σ) ∧
    (¬ (cS σ w0) ≤ (x3 + i7) →
      vp_in (x3 + i7) (capW w0) ∧ (
      vp_in i7 (capW w1) ∧ (
      ∀ b3 : Int64, b3 = (((cF σ w0 (x3 + i7).toNatClampNeg).toInt64) - (((cF σ w1 i7.toNatClampNeg).toInt64) * y2)) + l5 →
      vp_in (x3 + i7) (capW w0) ∧ (
      ∀ b4 : Int64, b4 = jlshr b3 (31 : Int32) →
      ∀ a5 : Int32, a5 = i7 + (1 : Int32) →
      N6 b4 a5 (sFi σ w0 (x3 + i7) ((b3 &&& (2147483647 : Int64)).toInt32)))))))
set_option maxRecDepth 100000 in
set_option maxHeartbeats 4000000 in
theorem wX3_takesTooMuch_6 {p : Program} {l : Launch} {e : Env} {s : State} {m : MethodId} {args : Array Value} {below : List Frame} {meth : Method} {c : Code} {D : va_G} {A : Nat → Prop} {g : mG} (hg : inj g) {w0 : Nat} {w1 : Nat} {y2 : Int64} {x3 : Int32} (hw0 : okW w0) (hw1 : okW w1) (X : cx p m meth c s args cX3_takesTooMuch 10 RX3 D (tyG g)) (hr : meth.sig.returnType = (some .boolean)) {Q : Int32 → CS → Prop} : ∀ (n : Nat) (l5 : Int64) (i7 : Int32) (σ : CS), lq3 (wbX3_takesTooMuch_6 w0 w1 y2 x3 Q) n l5 i7 σ → cW p l e rmX3_takesTooMuch s m args below meth c (MQ below (va_Qi Q (fun u t => wd D A (cT g u) t.heap) A) args s 0 0 A) D A (cT g σ) 6 10 [(0, .ref (g.1 (4 * w0))), (1, .ref (g.1 (4 * w1))), (2, .long y2), (4, .int x3), (5, .long l5), (7, .int i7)] := by
  obtain ⟨hx, hb, hml, hown, hts, hK, hlk⟩ := id X
  intro n
  induction n with
  | zero =>
    intro l5 i7 σ h
    exact h.elim
  | succ n hN6 =>
    intro l5 i7 σ h H locs ls hw hS hl
    replace h : wbX3_takesTooMuch_6 w0 w1 y2 x3 Q (lq3 (wbX3_takesTooMuch_6 w0 w1 y2 x3 Q) n) l5 i7 σ := h
    unfold wbX3_takesTooMuch_6 at h
    refine lv_iload hx hb dX3_takesTooMuch_6 (lv_at hl 5 rfl) ?_
    refine lv_aload_n hx hb dX3_takesTooMuch_8 rfl (lv_at hl 1 rfl) ?_
    refine m_get (v := .int (cS σ w1)) X hw (tW hw1) rfl inA_X3 1 (by decide) mw_100 rfl dX3_takesTooMuch_9 ?_
    refine lv_icmp_ge (tgt := 84) hx hb dX3_takesTooMuch_12 (by decide) (fun hc => ?_) (fun hc => ?_)
    · replace h := h.1 hc
      exact wX3_takesTooMuch_84 hg hw0 hw1 X hr l5 _ h H locs ls hw hS (lv_sub hl [0, 1, 2, 3, 4] rfl)
    · replace h := h.2 hc
      refine lv_iload hx hb dX3_takesTooMuch_15 (lv_at hl 3 rfl) ?_
      refine lv_iload hx hb dX3_takesTooMuch_17 (lv_at hl 5 rfl) ?_
      refine lv_iadd hx hb dX3_takesTooMuch_19 ?_
      refine lv_aload_n hx hb dX3_takesTooMuch_20 rfl (lv_at hl 0 rfl) ?_
      refine m_get (v := .int (cS σ w0)) X hw (tW hw0) rfl inA_X3 1 (by decide) mw_100 rfl dX3_takesTooMuch_21 ?_
      refine lv_icmp_ge (tgt := 84) hx hb dX3_takesTooMuch_24 (by decide) (fun hc => ?_) (fun hc => ?_)
      · replace h := h.1 hc
        exact wX3_takesTooMuch_84 hg hw0 hw1 X hr l5 _ h H locs ls hw hS (lv_sub hl [0, 1, 2, 3, 4] rfl)
      · replace h := h.2 hc
        refine lv_aload_n hx hb dX3_takesTooMuch_27 rfl (lv_at hl 0 rfl) ?_
        refine m_get (v := .ref (g.1 (4 * w0 + 1))) X hw (tW hw0) rfl inA_X3 0 (by decide) mw_36 rfl dX3_takesTooMuch_28 ?_
        refine lv_iload hx hb dX3_takesTooMuch_31 (lv_at hl 3 rfl) ?_
        refine lv_iload hx hb dX3_takesTooMuch_33 (lv_at hl 5 rfl) ?_
        refine lv_iadd hx hb dX3_takesTooMuch_35 ?_
        obtain ⟨hi, h⟩ := h
        refine m_iald X hw (tD hw0) 0 rfl hi dX3_takesTooMuch_36 ?_
        refine lv_i2l (v := (cF σ w0 (x3 + i7).toNatClampNeg).toInt64) hx hb dX3_takesTooMuch_37 rfl ?_
        refine lv_aload_n hx hb dX3_takesTooMuch_38 rfl (lv_at hl 1 rfl) ?_
        refine m_get (v := .ref (g.1 (4 * w1 + 1))) X hw (tW hw1) rfl inA_X3 0 (by decide) mw_36 rfl dX3_takesTooMuch_39 ?_
        refine lv_iload hx hb dX3_takesTooMuch_42 (lv_at hl 5 rfl) ?_
        obtain ⟨hi, h⟩ := h
        refine m_iald X hw (tD hw1) 0 rfl hi dX3_takesTooMuch_44 ?_
        refine lv_i2l (v := (cF σ w1 i7.toNatClampNeg).toInt64) hx hb dX3_takesTooMuch_45 rfl ?_
        refine lv_lload_n hx hb dX3_takesTooMuch_46 rfl (lv_at hl 2 rfl) ?_
        refine lv_lmul hx hb dX3_takesTooMuch_47 ?_
        refine lv_lsub hx hb dX3_takesTooMuch_48 ?_
        refine lv_lload hx hb dX3_takesTooMuch_49 (lv_at hl 4 rfl) ?_
        refine lv_ladd hx hb dX3_takesTooMuch_51 ?_
        refine lv_topl (fun b3 eb3 => ?_)
        replace h := h b3 eb3
        refine lv_lstore (lv' := [(8, .long b3), (0, .ref (g.1 (4 * w0))), (1, .ref (g.1 (4 * w1))), (2, .long y2), (4, .int x3), (5, .long l5), (7, .int i7)]) hx hb dX3_takesTooMuch_52 hl (by decide) rfl (fun ls hl => ?_)
        refine lv_aload_n hx hb dX3_takesTooMuch_54 rfl (lv_at hl 1 rfl) ?_
        refine m_get (v := .ref (g.1 (4 * w0 + 1))) X hw (tW hw0) rfl inA_X3 0 (by decide) mw_36 rfl dX3_takesTooMuch_55 ?_
        refine lv_iload hx hb dX3_takesTooMuch_58 (lv_at hl 4 rfl) ?_
        refine lv_iload hx hb dX3_takesTooMuch_60 (lv_at hl 6 rfl) ?_
        refine lv_iadd hx hb dX3_takesTooMuch_62 ?_
        refine lv_lload hx hb dX3_takesTooMuch_63 (lv_at hl 0 rfl) ?_
        refine lv_ldc2 (v := (2147483647 : Int64)) hx hb hown (hts _ mw_259) dX3_takesTooMuch_65 ?_
        refine lv_land hx hb dX3_takesTooMuch_68 ?_
        refine lv_l2i (v := (b3 &&& (2147483647 : Int64)).toInt32) hx hb dX3_takesTooMuch_69 rfl ?_
        obtain ⟨hi, h⟩ := h
        refine m_iast (T' := cT g (sFi σ w0 (x3 + i7) ((b3 &&& (2147483647 : Int64)).toInt32))) X hw hS (tD hw0) 0 rfl hi (uF hg) dX3_takesTooMuch_70 (fun H locs hw hS => ?_)
        refine lv_lload hx hb dX3_takesTooMuch_71 (lv_at hl 0 rfl) ?_
        refine lv_bipush (v := (31 : Int32)) hx hb dX3_takesTooMuch_73 (by decide) ?_
        refine lv_lshr (v := jlshr b3 (31 : Int32)) hx hb dX3_takesTooMuch_75 rfl ?_
        refine lv_topl (fun b4 eb4 => ?_)
        replace h := h b4 eb4
        refine lv_lstore (lv' := [(5, .long b4), (8, .long b3), (0, .ref (g.1 (4 * w0))), (1, .ref (g.1 (4 * w1))), (2, .long y2), (4, .int x3), (7, .int i7)]) hx hb dX3_takesTooMuch_76 hl (by decide) rfl (fun ls hl => ?_)
        obtain ⟨a5, ea5⟩ : ∃ z : Int32, z = i7 + (1 : Int32) := ⟨_, rfl⟩
        replace h := h a5 ea5
        refine lv_iinc (v := a5) (lv' := [(7, .int a5), (5, .long b4), (8, .long b3), (0, .ref (g.1 (4 * w0))), (1, .ref (g.1 (4 * w1))), (2, .long y2), (4, .int x3)]) hx hb dX3_takesTooMuch_78 hl (k := 6) rfl (by rw [ea5]; rfl) (by decide) rfl (fun ls hl => ?_)
        refine lv_goto (tgt := 6) hx hb dX3_takesTooMuch_81 (by decide) ?_
        exact hN6 b4 a5 _ h H locs ls hw hS (lv_sub hl [3, 4, 5, 6, 1, 0] rfl)
def wpX3_takesTooMuch_0 (w0 : Nat) (w1 : Nat) (y2 : Int64) (x3 : Int32) (Q : Int32 → CS → Prop) (σ : CS) : Prop :=
  ∃ n, lq3 (wbX3_takesTooMuch_6 w0 w1 y2 x3 Q) n (0 : Int64) (0 : Int32) σ
set_option maxRecDepth 100000 in
set_option maxHeartbeats 4000000 in
theorem wX3_takesTooMuch_0 {p : Program} {l : Launch} {e : Env} {s : State} {m : MethodId} {args : Array Value} {below : List Frame} {meth : Method} {c : Code} {D : va_G} {A : Nat → Prop} {g : mG} (hg : inj g) {w0 : Nat} {w1 : Nat} {y2 : Int64} {x3 : Int32} (hw0 : okW w0) (hw1 : okW w1) (X : cx p m meth c s args cX3_takesTooMuch 10 RX3 D (tyG g)) (hr : meth.sig.returnType = (some .boolean)) {Q : Int32 → CS → Prop} : ∀ (σ : CS), wpX3_takesTooMuch_0 w0 w1 y2 x3 Q σ → cW p l e rmX3_takesTooMuch s m args below meth c (MQ below (va_Qi Q (fun u t => wd D A (cT g u) t.heap) A) args s 0 0 A) D A (cT g σ) 0 10 [(0, .ref (g.1 (4 * w0))), (1, .ref (g.1 (4 * w1))), (2, .long y2), (4, .int x3)] := by
  obtain ⟨hx, hb, hml, hown, hts, hK, hlk⟩ := id X
  intro σ h H locs ls hw hS hl
  unfold wpX3_takesTooMuch_0 at h
  refine lv_lconst (v := (0 : Int64)) hx hb dX3_takesTooMuch_0 (by decide) ?_
  refine lv_lstore (lv' := [(5, .long (0 : Int64)), (0, .ref (g.1 (4 * w0))), (1, .ref (g.1 (4 * w1))), (2, .long y2), (4, .int x3)]) hx hb dX3_takesTooMuch_1 hl (by decide) rfl (fun ls hl => ?_)
  refine lv_iconst (v := (0 : Int32)) hx hb dX3_takesTooMuch_3 (by decide) ?_
  refine lv_istore (lv' := [(7, .int (0 : Int32)), (5, .long (0 : Int64)), (0, .ref (g.1 (4 * w0))), (1, .ref (g.1 (4 * w1))), (2, .long y2), (4, .int x3)]) hx hb dX3_takesTooMuch_4 hl (by decide) rfl (fun ls hl => ?_)
  obtain ⟨n9, h⟩ := h
  exact wX3_takesTooMuch_6 hg hw0 hw1 X hr n9 (0 : Int64) (0 : Int32) _ h H locs ls hw hS (lv_sub hl [2, 3, 4, 5, 1, 0] rfl)
def wpX3_takesTooMuch (w0 : Nat) (w1 : Nat) (y2 : Int64) (x3 : Int32) (σ : CS) (Q : Int32 → CS → Prop) : Prop := wpX3_takesTooMuch_0 w0 w1 y2 x3 Q σ
theorem kX3_takesTooMuch {l : Launch} {D : va_G} {A : Nat → Prop} {g : mG} (hg : inj g) {w0 : Nat} {w1 : Nat} {y2 : Int64} {x3 : Int32} (hw0 : okW w0) (hw1 : okW w1) {σ : CS} {Q : Int32 → CS → Prop} (h : wpX3_takesTooMuch w0 w1 y2 x3 σ Q) : Met l yX3_takesTooMuch (Cond.code yX3_takesTooMuch cX3_takesTooMuch 10 (some .boolean) :: wsA) rmX3_takesTooMuch (mPc D (tyG g) A (cT g σ) [.ref (g.1 (4 * w0)), .ref (g.1 (4 * w1)), .long y2, .int x3]) (va_Qi Q (fun u t => wd D A (cT g u) t.heap) A) 0 0 A :=
  m_met (by decide +kernel) (Nat.le_of_ble_eq_true rfl) (fun p e s m below meth c X hr H locs ls hw hS hl => wX3_takesTooMuch_0 hg hw0 hw1 X hr σ h H locs ls hw hS (lv_sub hl [0, 1, 2, 3] rfl))
theorem fX3_takesTooMuch : vfit yX3_takesTooMuch cX3_takesTooMuch 10 (some .boolean) 3 := ⟨mw_376, mw_377, mw_29, mw_378, by decide +kernel, by decide +kernel, by decide +kernel⟩
/-! BigPolys$Whole.giveBack(LBigPolys$Whole;I)V -/
def rmX3_giveBack : Room := { frames := 0, cells := 0, slots := 0, locals := 0 }
def wpX3_giveBack_72 (w0 : Nat) (w1 : Nat) (x2 : Int32) (Q : CS → Prop) (i3 : Int32) (σ : CS) : Prop :=
  ∀ a1 : Int32, a1 = x2 + (cS σ w1) →
  ((cS σ w0) ≤ a1 →
    Q σ) ∧
  (¬ (cS σ w0) ≤ a1 →
    vp_in a1 (capW w0) ∧ (
    vp_in a1 (capW w0) ∧ (
    Q (sFi σ w0 a1 (((cF σ w0 a1.toNatClampNeg) + i3) &&& (2147483647 : Int32))))))
set_option maxRecDepth 100000 in
set_option maxHeartbeats 4000000 in
theorem wX3_giveBack_72 {p : Program} {l : Launch} {e : Env} {s : State} {m : MethodId} {args : Array Value} {below : List Frame} {meth : Method} {c : Code} {D : va_G} {A : Nat → Prop} {g : mG} (hg : inj g) {w0 : Nat} {w1 : Nat} {x2 : Int32} (hw0 : okW w0) (hw1 : okW w1) (X : cx p m meth c s args cX3_giveBack 6 RX3 D (tyG g)) (hr : meth.sig.returnType = none) {Q : CS → Prop} : ∀ (i3 : Int32) (σ : CS), wpX3_giveBack_72 w0 w1 x2 Q i3 σ → cW p l e rmX3_giveBack s m args below meth c (MQ below (va_Qv Q (fun u t => wd D A (cT g u) t.heap) A) args s 0 0 A) D A (cT g σ) 72 6 [(0, .ref (g.1 (4 * w0))), (1, .ref (g.1 (4 * w1))), (2, .int x2), (3, .int i3)] := by
  obtain ⟨hx, hb, hml, hown, hts, hK, hlk⟩ := id X
  intro i3 σ h H locs ls hw hS hl
  unfold wpX3_giveBack_72 at h
  refine lv_iload_n hx hb dX3_giveBack_72 rfl (lv_at hl 2 rfl) ?_
  refine lv_aload_n hx hb dX3_giveBack_73 rfl (lv_at hl 1 rfl) ?_
  refine m_get (v := .int (cS σ w1)) X hw (tW hw1) rfl inA_X3 1 (by decide) mw_100 rfl dX3_giveBack_74 ?_
  refine lv_iadd hx hb dX3_giveBack_77 ?_
  refine lv_topi (fun a1 ea1 => ?_)
  replace h := h a1 ea1
  refine lv_istore (lv' := [(4, .int a1), (0, .ref (g.1 (4 * w0))), (1, .ref (g.1 (4 * w1))), (2, .int x2), (3, .int i3)]) hx hb dX3_giveBack_78 hl (by decide) rfl (fun ls hl => ?_)
  refine lv_iload hx hb dX3_giveBack_80 (lv_at hl 0 rfl) ?_
  refine lv_aload_n hx hb dX3_giveBack_82 rfl (lv_at hl 1 rfl) ?_
  refine m_get (v := .int (cS σ w0)) X hw (tW hw0) rfl inA_X3 1 (by decide) mw_100 rfl dX3_giveBack_83 ?_
  refine lv_icmp_ge (tgt := 108) hx hb dX3_giveBack_86 (by decide) (fun hc => ?_) (fun hc => ?_)
  · replace h := h.1 hc
    exact m_vret X hr hw hS h dX3_giveBack_108
  · replace h := h.2 hc
    refine lv_aload_n hx hb dX3_giveBack_89 rfl (lv_at hl 1 rfl) ?_
    refine m_get (v := .ref (g.1 (4 * w0 + 1))) X hw (tW hw0) rfl inA_X3 0 (by decide) mw_36 rfl dX3_giveBack_90 ?_
    refine lv_iload hx hb dX3_giveBack_93 (lv_at hl 0 rfl) ?_
    refine lv_aload_n hx hb dX3_giveBack_95 rfl (lv_at hl 1 rfl) ?_
    refine m_get (v := .ref (g.1 (4 * w0 + 1))) X hw (tW hw0) rfl inA_X3 0 (by decide) mw_36 rfl dX3_giveBack_96 ?_
    refine lv_iload hx hb dX3_giveBack_99 (lv_at hl 0 rfl) ?_
    obtain ⟨hi, h⟩ := h
    refine m_iald X hw (tD hw0) 0 rfl hi dX3_giveBack_101 ?_
    refine lv_iload_n hx hb dX3_giveBack_102 rfl (lv_at hl 4 rfl) ?_
    refine lv_iadd hx hb dX3_giveBack_103 ?_
    refine lv_ldc (v := (2147483647 : Int32)) hx hb hown (hts _ mw_208) dX3_giveBack_104 ?_
    refine lv_iand hx hb dX3_giveBack_106 ?_
    obtain ⟨hi, h⟩ := h
    refine m_iast (T' := cT g (sFi σ w0 a1 (((cF σ w0 a1.toNatClampNeg) + i3) &&& (2147483647 : Int32)))) X hw hS (tD hw0) 0 rfl hi (uF hg) dX3_giveBack_107 (fun H locs hw hS => ?_)
    exact m_vret X hr hw hS h dX3_giveBack_108
def wbX3_giveBack_5 (w0 : Nat) (w1 : Nat) (x2 : Int32) (Q : CS → Prop) (N5 : Int32 → Int32 → CS → Prop) (i3 : Int32) (i4 : Int32) (σ : CS) : Prop :=
  ((cS σ w1) ≤ i4 →
    wpX3_giveBack_72 w0 w1 x2 Q i3 σ) ∧
  (¬ (cS σ w1) ≤ i4 →
    ((cS σ w0) ≤ (x2 + i4) →
      wpX3_giveBack_72 w0 w1 x2 Q i3 σ) ∧
    (¬ (cS σ w0) ≤ (x2 + i4) →
      vp_in (x2 + i4) (capW w0) ∧ (
      vp_in i4 (capW w1) ∧ (
      ∀ a2 : Int32, a2 = ((cF σ w0 (x2 + i4).toNatClampNeg) + (cF σ w1 i4.toNatClampNeg)) + i3 →
      vp_in (x2 + i4) (capW w0) ∧ (
      ∀ a3 : Int32, a3 = jushr a2 (31 : Int32) →
      ∀ a4 : Int32, a4 = i4 + (1 : Int32) →
      N5 a3 a4 (sFi σ w0 (x2 + i4) (a2 &&& (2147483647 : Int32))))))))
set_option maxRecDepth 100000 in
set_option maxHeartbeats 4000000 in
theorem wX3_giveBack_5 {p : Program} {l : Launch} {e : Env} {s : State} {m : MethodId} {args : Array Value} {below : List Frame} {meth : Method} {c : Code} {D : va_G} {A : Nat → Prop} {g : mG} (hg : inj g) {w0 : Nat} {w1 : Nat} {x2 : Int32} (hw0 : okW w0) (hw1 : okW w1) (X : cx p m meth c s args cX3_giveBack 6 RX3 D (tyG g)) (hr : meth.sig.returnType = none) {Q : CS → Prop} : ∀ (n : Nat) (i3 : Int32) (i4 : Int32) (σ : CS), lq3 (wbX3_giveBack_5 w0 w1 x2 Q) n i3 i4 σ → cW p l e rmX3_giveBack s m args below meth c (MQ below (va_Qv Q (fun u t => wd D A (cT g u) t.heap) A) args s 0 0 A) D A (cT g σ) 5 6 [(0, .ref (g.1 (4 * w0))), (1, .ref (g.1 (4 * w1))), (2, .int x2), (3, .int i3), (4, .int i4)] := by
  obtain ⟨hx, hb, hml, hown, hts, hK, hlk⟩ := id X
  intro n
  induction n with
  | zero =>
    intro i3 i4 σ h
    exact h.elim
  | succ n hN5 =>
    intro i3 i4 σ h H locs ls hw hS hl
    replace h : wbX3_giveBack_5 w0 w1 x2 Q (lq3 (wbX3_giveBack_5 w0 w1 x2 Q) n) i3 i4 σ := h
    unfold wbX3_giveBack_5 at h
    refine lv_iload hx hb dX3_giveBack_5 (lv_at hl 4 rfl) ?_
    refine lv_aload_n hx hb dX3_giveBack_7 rfl (lv_at hl 1 rfl) ?_
    refine m_get (v := .int (cS σ w1)) X hw (tW hw1) rfl inA_X3 1 (by decide) mw_100 rfl dX3_giveBack_8 ?_
    refine lv_icmp_ge (tgt := 72) hx hb dX3_giveBack_11 (by decide) (fun hc => ?_) (fun hc => ?_)
    · replace h := h.1 hc
      exact wX3_giveBack_72 hg hw0 hw1 X hr i3 _ h H locs ls hw hS (lv_sub hl [0, 1, 2, 3] rfl)
    · replace h := h.2 hc
      refine lv_iload_n hx hb dX3_giveBack_14 rfl (lv_at hl 2 rfl) ?_
      refine lv_iload hx hb dX3_giveBack_15 (lv_at hl 4 rfl) ?_
      refine lv_iadd hx hb dX3_giveBack_17 ?_
      refine lv_aload_n hx hb dX3_giveBack_18 rfl (lv_at hl 0 rfl) ?_
      refine m_get (v := .int (cS σ w0)) X hw (tW hw0) rfl inA_X3 1 (by decide) mw_100 rfl dX3_giveBack_19 ?_
      refine lv_icmp_ge (tgt := 72) hx hb dX3_giveBack_22 (by decide) (fun hc => ?_) (fun hc => ?_)
      · replace h := h.1 hc
        exact wX3_giveBack_72 hg hw0 hw1 X hr i3 _ h H locs ls hw hS (lv_sub hl [0, 1, 2, 3] rfl)
      · replace h := h.2 hc
        refine lv_aload_n hx hb dX3_giveBack_25 rfl (lv_at hl 0 rfl) ?_
        refine m_get (v := .ref (g.1 (4 * w0 + 1))) X hw (tW hw0) rfl inA_X3 0 (by decide) mw_36 rfl dX3_giveBack_26 ?_
        refine lv_iload_n hx hb dX3_giveBack_29 rfl (lv_at hl 2 rfl) ?_
        refine lv_iload hx hb dX3_giveBack_30 (lv_at hl 4 rfl) ?_
        refine lv_iadd hx hb dX3_giveBack_32 ?_
        obtain ⟨hi, h⟩ := h
        refine m_iald X hw (tD hw0) 0 rfl hi dX3_giveBack_33 ?_
        refine lv_aload_n hx hb dX3_giveBack_34 rfl (lv_at hl 1 rfl) ?_
        refine m_get (v := .ref (g.1 (4 * w1 + 1))) X hw (tW hw1) rfl inA_X3 0 (by decide) mw_36 rfl dX3_giveBack_35 ?_
        refine lv_iload hx hb dX3_giveBack_38 (lv_at hl 4 rfl) ?_
        obtain ⟨hi, h⟩ := h
        refine m_iald X hw (tD hw1) 0 rfl hi dX3_giveBack_40 ?_
        refine lv_iadd hx hb dX3_giveBack_41 ?_
        refine lv_iload_n hx hb dX3_giveBack_42 rfl (lv_at hl 3 rfl) ?_
        refine lv_iadd hx hb dX3_giveBack_43 ?_
        refine lv_topi (fun a2 ea2 => ?_)
        replace h := h a2 ea2
        refine lv_istore (lv' := [(5, .int a2), (0, .ref (g.1 (4 * w0))), (1, .ref (g.1 (4 * w1))), (2, .int x2), (3, .int i3), (4, .int i4)]) hx hb dX3_giveBack_44 hl (by decide) rfl (fun ls hl => ?_)
        refine lv_aload_n hx hb dX3_giveBack_46 rfl (lv_at hl 1 rfl) ?_
        refine m_get (v := .ref (g.1 (4 * w0 + 1))) X hw (tW hw0) rfl inA_X3 0 (by decide) mw_36 rfl dX3_giveBack_47 ?_
        refine lv_iload_n hx hb dX3_giveBack_50 rfl (lv_at hl 3 rfl) ?_
        refine lv_iload hx hb dX3_giveBack_51 (lv_at hl 5 rfl) ?_
        refine lv_iadd hx hb dX3_giveBack_53 ?_
        refine lv_iload hx hb dX3_giveBack_54 (lv_at hl 0 rfl) ?_
        refine lv_ldc (v := (2147483647 : Int32)) hx hb hown (hts _ mw_208) dX3_giveBack_56 ?_
        refine lv_iand hx hb dX3_giveBack_58 ?_
        obtain ⟨hi, h⟩ := h
        refine m_iast (T' := cT g (sFi σ w0 (x2 + i4) (a2 &&& (2147483647 : Int32)))) X hw hS (tD hw0) 0 rfl hi (uF hg) dX3_giveBack_59 (fun H locs hw hS => ?_)
        refine lv_iload hx hb dX3_giveBack_60 (lv_at hl 0 rfl) ?_
        refine lv_bipush (v := (31 : Int32)) hx hb dX3_giveBack_62 (by decide) ?_
        refine lv_iushr (v := jushr a2 (31 : Int32)) hx hb dX3_giveBack_64 rfl ?_
        refine lv_topi (fun a3 ea3 => ?_)
        replace h := h a3 ea3
        refine lv_istore_n (lv' := [(3, .int a3), (5, .int a2), (0, .ref (g.1 (4 * w0))), (1, .ref (g.1 (4 * w1))), (2, .int x2), (4, .int i4)]) hx hb dX3_giveBack_65 rfl hl (by decide) rfl (fun ls hl => ?_)
        obtain ⟨a4, ea4⟩ : ∃ z : Int32, z = i4 + (1 : Int32) := ⟨_, rfl⟩
        replace h := h a4 ea4
        refine lv_iinc (v := a4) (lv' := [(4, .int a4), (3, .int a3), (5, .int a2), (0, .ref (g.1 (4 * w0))), (1, .ref (g.1 (4 * w1))), (2, .int x2)]) hx hb dX3_giveBack_66 hl (k := 5) rfl (by rw [ea4]; rfl) (by decide) rfl (fun ls hl => ?_)
        refine lv_goto (tgt := 5) hx hb dX3_giveBack_69 (by decide) ?_
        exact hN5 a3 a4 _ h H locs ls hw hS (lv_sub hl [3, 4, 5, 1, 0] rfl)
def wpX3_giveBack_0 (w0 : Nat) (w1 : Nat) (x2 : Int32) (Q : CS → Prop) (σ : CS) : Prop :=
  ∃ n, lq3 (wbX3_giveBack_5 w0 w1 x2 Q) n (0 : Int32) (0 : Int32) σ
set_option maxRecDepth 100000 in
set_option maxHeartbeats 4000000 in
theorem wX3_giveBack_0 {p : Program} {l : Launch} {e : Env} {s : State} {m : MethodId} {args : Array Value} {below : List Frame} {meth : Method} {c : Code} {D : va_G} {A : Nat → Prop} {g : mG} (hg : inj g) {w0 : Nat} {w1 : Nat} {x2 : Int32} (hw0 : okW w0) (hw1 : okW w1) (X : cx p m meth c s args cX3_giveBack 6 RX3 D (tyG g)) (hr : meth.sig.returnType = none) {Q : CS → Prop} : ∀ (σ : CS), wpX3_giveBack_0 w0 w1 x2 Q σ → cW p l e rmX3_giveBack s m args below meth c (MQ below (va_Qv Q (fun u t => wd D A (cT g u) t.heap) A) args s 0 0 A) D A (cT g σ) 0 6 [(0, .ref (g.1 (4 * w0))), (1, .ref (g.1 (4 * w1))), (2, .int x2)] := by
  obtain ⟨hx, hb, hml, hown, hts, hK, hlk⟩ := id X
  intro σ h H locs ls hw hS hl
  unfold wpX3_giveBack_0 at h
  refine lv_iconst (v := (0 : Int32)) hx hb dX3_giveBack_0 (by decide) ?_
  refine lv_istore_n (lv' := [(3, .int (0 : Int32)), (0, .ref (g.1 (4 * w0))), (1, .ref (g.1 (4 * w1))), (2, .int x2)]) hx hb dX3_giveBack_1 rfl hl (by decide) rfl (fun ls hl => ?_)
  refine lv_iconst (v := (0 : Int32)) hx hb dX3_giveBack_2 (by decide) ?_
  refine lv_istore (lv' := [(4, .int (0 : Int32)), (3, .int (0 : Int32)), (0, .ref (g.1 (4 * w0))), (1, .ref (g.1 (4 * w1))), (2, .int x2)]) hx hb dX3_giveBack_3 hl (by decide) rfl (fun ls hl => ?_)
  obtain ⟨n9, h⟩ := h
  exact wX3_giveBack_5 hg hw0 hw1 X hr n9 (0 : Int32) (0 : Int32) _ h H locs ls hw hS (lv_sub hl [2, 3, 4, 1, 0] rfl)
def wpX3_giveBack (w0 : Nat) (w1 : Nat) (x2 : Int32) (σ : CS) (Q : CS → Prop) : Prop := wpX3_giveBack_0 w0 w1 x2 Q σ
theorem kX3_giveBack {l : Launch} {D : va_G} {A : Nat → Prop} {g : mG} (hg : inj g) {w0 : Nat} {w1 : Nat} {x2 : Int32} (hw0 : okW w0) (hw1 : okW w1) {σ : CS} {Q : CS → Prop} (h : wpX3_giveBack w0 w1 x2 σ Q) : Met l yX3_giveBack (Cond.code yX3_giveBack cX3_giveBack 6 none :: wsA) rmX3_giveBack (mPc D (tyG g) A (cT g σ) [.ref (g.1 (4 * w0)), .ref (g.1 (4 * w1)), .int x2]) (va_Qv Q (fun u t => wd D A (cT g u) t.heap) A) 0 0 A :=
  m_met (by decide +kernel) (Nat.le_of_ble_eq_true rfl) (fun p e s m below meth c X hr H locs ls hw hS hl => wX3_giveBack_0 hg hw0 hw1 X hr σ h H locs ls hw hS (lv_sub hl [0, 1, 2] rfl))
theorem fX3_giveBack : vfit yX3_giveBack cX3_giveBack 6 none 2 := ⟨mw_380, mw_381, mw_29, mw_382, by decide +kernel, by decide +kernel, by decide +kernel⟩
/-! BigPolys$Whole.divide(LBigPolys$Whole;LBigPolys$Whole;)V -/
def rmX3_divide : Room := { frames := 2, cells := 0, slots := 0, locals := 56 }
def wpX3_divide_175 (w0 : Nat) (w1 : Nat) (w2 : Nat) (Q : CS → Prop) (N84 : Int32 → Int32 → Int64 → Int64 → Int32 → CS → Prop) (i3 : Int32) (i4 : Int32) (l5 : Int64) (l7 : Int64) (i9 : Int32) (l13 : Int64) (σ : CS) : Prop :=
  vp_in i9 (capW w2) ∧ (
  ∀ a1 : Int32, a1 = i9 + (-1 : Int32) →
  N84 i3 i4 l5 l7 a1 (sFi σ w2 i9 l13.toInt32))
set_option maxRecDepth 100000 in
set_option maxHeartbeats 4000000 in
theorem wX3_divide_175 {p : Program} {l : Launch} {e : Env} {s : State} {m : MethodId} {args : Array Value} {below : List Frame} {meth : Method} {c : Code} {D : va_G} {A : Nat → Prop} {g : mG} (hg : inj g) {w0 : Nat} {w1 : Nat} {w2 : Nat} (hw0 : okW w0) (hw1 : okW w1) (hw2 : okW w2) (X : cx p m meth c s args cX3_divide 15 RX3 D (tyG g)) (hr : meth.sig.returnType = none) {Q : CS → Prop} {N84 : Int32 → Int32 → Int64 → Int64 → Int32 → CS → Prop} (hN84 : ∀ (i3 : Int32) (i4 : Int32) (l5 : Int64) (l7 : Int64) (i9 : Int32) (σ : CS), N84 i3 i4 l5 l7 i9 σ → cW p l e rmX3_divide s m args below meth c (MQ below (va_Qv Q (fun u t => wd D A (cT g u) t.heap) A) args s 0 0 A) D A (cT g σ) 84 15 [(0, .ref (g.1 (4 * w0))), (1, .ref (g.1 (4 * w1))), (2, .ref (g.1 (4 * w2))), (3, .int i3), (4, .int i4), (5, .long l5), (7, .long l7), (9, .int i9)]) : ∀ (i3 : Int32) (i4 : Int32) (l5 : Int64) (l7 : Int64) (i9 : Int32) (l13 : Int64) (σ : CS), wpX3_divide_175 w0 w1 w2 Q N84 i3 i4 l5 l7 i9 l13 σ → cW p l e rmX3_divide s m args below meth c (MQ below (va_Qv Q (fun u t => wd D A (cT g u) t.heap) A) args s 0 0 A) D A (cT g σ) 175 15 [(0, .ref (g.1 (4 * w0))), (1, .ref (g.1 (4 * w1))), (2, .ref (g.1 (4 * w2))), (3, .int i3), (4, .int i4), (5, .long l5), (7, .long l7), (9, .int i9), (13, .long l13)] := by
  obtain ⟨hx, hb, hml, hown, hts, hK, hlk⟩ := id X
  intro i3 i4 l5 l7 i9 l13 σ h H locs ls hw hS hl
  unfold wpX3_divide_175 at h
  refine lv_aload_n hx hb dX3_divide_175 rfl (lv_at hl 2 rfl) ?_
  refine m_get (v := .ref (g.1 (4 * w2 + 1))) X hw (tW hw2) rfl inA_X3 0 (by decide) mw_36 rfl dX3_divide_176 ?_
  refine lv_iload hx hb dX3_divide_179 (lv_at hl 7 rfl) ?_
  refine lv_lload hx hb dX3_divide_181 (lv_at hl 8 rfl) ?_
  refine lv_l2i (v := l13.toInt32) hx hb dX3_divide_183 rfl ?_
  obtain ⟨hi, h⟩ := h
  refine m_iast (T' := cT g (sFi σ w2 i9 l13.toInt32)) X hw hS (tD hw2) 0 rfl hi (uF hg) dX3_divide_184 (fun H locs hw hS => ?_)
  obtain ⟨a1, ea1⟩ : ∃ z : Int32, z = i9 + (-1 : Int32) := ⟨_, rfl⟩
  replace h := h a1 ea1
  refine lv_iinc (v := a1) (lv' := [(9, .int a1), (0, .ref (g.1 (4 * w0))), (1, .ref (g.1 (4 * w1))), (2, .ref (g.1 (4 * w2))), (3, .int i3), (4, .int i4), (5, .long l5), (7, .long l7), (13, .long l13)]) hx hb dX3_divide_185 hl (k := 7) rfl (by rw [ea1]; rfl) (by decide) rfl (fun ls hl => ?_)
  refine lv_goto (tgt := 84) hx hb dX3_divide_188 (by decide) ?_
  exact hN84 i3 i4 l5 l7 a1 _ h H locs ls hw hS (lv_sub hl [1, 2, 3, 4, 5, 6, 7, 0] rfl)
def wbX3_divide_84 (w0 : Nat) (w1 : Nat) (w2 : Nat) (Q : CS → Prop) (N84 : Int32 → Int32 → Int64 → Int64 → Int32 → CS → Prop) (i3 : Int32) (i4 : Int32) (l5 : Int64) (l7 : Int64) (i9 : Int32) (σ : CS) : Prop :=
  (i9 < 0 →
    wpX3_trim w2 (sG (sS σ w2 (i3 + (1 : Int32))) w2 ((cG (sS σ w2 (i3 + (1 : Int32))) w0) * (cG (sS σ w2 (i3 + (1 : Int32))) w1))) (fun (σ3 : CS) =>
      wpX3_trim w0 σ3 (fun (σ5 : CS) =>
        Q σ5))) ∧
  (¬ i9 < 0 →
    ∀ a6 : Int32, a6 = i9 + (cS σ w1) →
    wpX3_window w0 a6 i4 σ (fun (r7 : Int64) (σ8 : CS) =>
      wpX3_window w0 (a6 - (1 : Int32)) i4 σ8 (fun (r9 : Int64) (σ10 : CS) =>
        ∀ b11 : Int64, b11 = (jlshl r7 (31 : Int32)) ||| r9 →
        wpX3_window w0 (a6 - (2 : Int32)) i4 σ10 (fun (r12 : Int64) (σ13 : CS) =>
          wpX3_guess b11 r12 l5 l7 σ13 (fun (r14 : Int64) (σ15 : CS) =>
            ((lg_cmp r14 (0 : Int64)) = 0 →
              wpX3_divide_175 w0 w1 w2 Q N84 i3 i4 l5 l7 i9 r14 σ15) ∧
            (¬ (lg_cmp r14 (0 : Int64)) = 0 →
              wpX3_takesTooMuch w0 w1 r14 i9 σ15 (fun (r16 : Int32) (σ17 : CS) =>
                (r16 = 0 →
                  wpX3_divide_175 w0 w1 w2 Q N84 i3 i4 l5 l7 i9 r14 σ17) ∧
                (¬ r16 = 0 →
                  wpX3_giveBack w0 w1 i9 σ17 (fun (σ19 : CS) =>
                    ∀ b20 : Int64, b20 = r14 - (1 : Int64) →
                    wpX3_divide_175 w0 w1 w2 Q N84 i3 i4 l5 l7 i9 b20 σ19)))))))))
set_option maxRecDepth 100000 in
set_option maxHeartbeats 4000000 in
theorem wX3_divide_84 {p : Program} {l : Launch} {e : Env} {s : State} {m : MethodId} {args : Array Value} {below : List Frame} {meth : Method} {c : Code} {D : va_G} {A : Nat → Prop} {g : mG} (hg : inj g) {w0 : Nat} {w1 : Nat} {w2 : Nat} (hw0 : okW w0) (hw1 : okW w1) (hw2 : okW w2) (X : cx p m meth c s args cX3_divide 15 RX3 D (tyG g)) (hr : meth.sig.returnType = none) {Q : CS → Prop} : ∀ (n : Nat) (i3 : Int32) (i4 : Int32) (l5 : Int64) (l7 : Int64) (i9 : Int32) (σ : CS), lq6 (wbX3_divide_84 w0 w1 w2 Q) n i3 i4 l5 l7 i9 σ → cW p l e rmX3_divide s m args below meth c (MQ below (va_Qv Q (fun u t => wd D A (cT g u) t.heap) A) args s 0 0 A) D A (cT g σ) 84 15 [(0, .ref (g.1 (4 * w0))), (1, .ref (g.1 (4 * w1))), (2, .ref (g.1 (4 * w2))), (3, .int i3), (4, .int i4), (5, .long l5), (7, .long l7), (9, .int i9)] := by
  obtain ⟨hx, hb, hml, hown, hts, hK, hlk⟩ := id X
  intro n
  induction n with
  | zero =>
    intro i3 i4 l5 l7 i9 σ h
    exact h.elim
  | succ n hN84 =>
    intro i3 i4 l5 l7 i9 σ h H locs ls hw hS hl
    replace h : wbX3_divide_84 w0 w1 w2 Q (lq6 (wbX3_divide_84 w0 w1 w2 Q) n) i3 i4 l5 l7 i9 σ := h
    unfold wbX3_divide_84 at h
    refine lv_iload hx hb dX3_divide_84 (lv_at hl 7 rfl) ?_
    refine lv_if_lt (tgt := 191) hx hb dX3_divide_86 (by decide) (fun hc => ?_) (fun hc => ?_)
    · replace h := h.1 hc
      refine lv_aload_n hx hb dX3_divide_191 rfl (lv_at hl 2 rfl) ?_
      refine lv_iload_n hx hb dX3_divide_192 rfl (lv_at hl 3 rfl) ?_
      refine lv_iconst (v := (1 : Int32)) hx hb dX3_divide_193 (by decide) ?_
      refine lv_iadd hx hb dX3_divide_194 ?_
      refine m_put (T' := cT g (sS σ w2 (i3 + (1 : Int32)))) X hw hS (tW hw2) rfl inA_X3 tyX3 tyX3_ok nmX3 1 (by decide) mw_100 rfl pd_I (Nat.le_of_ble_eq_true rfl) (uS hg) dX3_divide_195 (fun H locs hw hS => ?_)
      refine lv_aload_n hx hb dX3_divide_198 rfl (lv_at hl 2 rfl) ?_
      refine lv_aload_n hx hb dX3_divide_199 rfl (lv_at hl 0 rfl) ?_
      refine m_get (v := .int (cG (sS σ w2 (i3 + (1 : Int32))) w0)) X hw (tW hw0) rfl inA_X3 2 (by decide) mw_101 rfl dX3_divide_200 ?_
      refine lv_aload_n hx hb dX3_divide_203 rfl (lv_at hl 1 rfl) ?_
      refine m_get (v := .int (cG (sS σ w2 (i3 + (1 : Int32))) w1)) X hw (tW hw1) rfl inA_X3 2 (by decide) mw_101 rfl dX3_divide_204 ?_
      refine lv_imul hx hb dX3_divide_207 ?_
      refine m_put (T' := cT g (sG (sS σ w2 (i3 + (1 : Int32))) w2 ((cG (sS σ w2 (i3 + (1 : Int32))) w0) * (cG (sS σ w2 (i3 + (1 : Int32))) w1)))) X hw hS (tW hw2) rfl inA_X3 tyX3 tyX3_ok nmX3 2 (by decide) mw_101 rfl pd_I (Nat.le_of_ble_eq_true rfl) (uG hg) dX3_divide_208 (fun H locs hw hS => ?_)
      refine lv_aload_n hx hb dX3_divide_211 rfl (lv_at hl 2 rfl) ?_
      refine m_cVv (TT := cT g) (As := []) (rest := []) X hl.1 hw hS (kX3_trim hg hw2 h) mw_191 fX3_trim (tW hw2) rfl rfl ⟨rfl, rfl, Nat.le_of_ble_eq_true rfl, Nat.le_of_ble_eq_true rfl⟩ rfl rfl (Nat.le_of_ble_eq_true rfl) dX3_divide_212 (fun σ3 H locs h hw hS => ?_)
      refine lv_aload_n hx hb dX3_divide_215 rfl (lv_at hl 0 rfl) ?_
      refine m_cVv (TT := cT g) (As := []) (rest := []) X hl.1 hw hS (kX3_trim hg hw0 h) mw_191 fX3_trim (tW hw0) rfl rfl ⟨rfl, rfl, Nat.le_of_ble_eq_true rfl, Nat.le_of_ble_eq_true rfl⟩ rfl rfl (Nat.le_of_ble_eq_true rfl) dX3_divide_216 (fun σ5 H locs h hw hS => ?_)
      exact m_vret X hr hw hS h dX3_divide_219
    · replace h := h.2 hc
      refine lv_iload hx hb dX3_divide_89 (lv_at hl 7 rfl) ?_
      refine lv_aload_n hx hb dX3_divide_91 rfl (lv_at hl 1 rfl) ?_
      refine m_get (v := .int (cS σ w1)) X hw (tW hw1) rfl inA_X3 1 (by decide) mw_100 rfl dX3_divide_92 ?_
      refine lv_iadd hx hb dX3_divide_95 ?_
      refine lv_topi (fun a6 ea6 => ?_)
      replace h := h a6 ea6
      refine lv_istore (lv' := [(10, .int a6), (0, .ref (g.1 (4 * w0))), (1, .ref (g.1 (4 * w1))), (2, .ref (g.1 (4 * w2))), (3, .int i3), (4, .int i4), (5, .long l5), (7, .long l7), (9, .int i9)]) hx hb dX3_divide_96 hl (by decide) rfl (fun ls hl => ?_)
      refine lv_aload_n hx hb dX3_divide_98 rfl (lv_at hl 1 rfl) ?_
      refine lv_iload hx hb dX3_divide_99 (lv_at hl 0 rfl) ?_
      refine lv_iload hx hb dX3_divide_101 (lv_at hl 5 rfl) ?_
      refine m_cVl (TT := cT g) (As := [.int a6, .int i4]) (rest := []) X hl.1 hw hS (kX3_window hg hw0 h) mw_365 fX3_window (tW hw0) rfl rfl ⟨rfl, rfl, Nat.le_of_ble_eq_true rfl, Nat.le_of_ble_eq_true rfl⟩ rfl rfl (Nat.le_of_ble_eq_true rfl) dX3_divide_103 (fun r7 σ8 H locs h hw hS => ?_)
      refine lv_bipush (v := (31 : Int32)) hx hb dX3_divide_106 (by decide) ?_
      refine lv_lshl (v := jlshl r7 (31 : Int32)) hx hb dX3_divide_108 rfl ?_
      refine lv_aload_n hx hb dX3_divide_109 rfl (lv_at hl 1 rfl) ?_
      refine lv_iload hx hb dX3_divide_110 (lv_at hl 0 rfl) ?_
      refine lv_iconst (v := (1 : Int32)) hx hb dX3_divide_112 (by decide) ?_
      refine lv_isub hx hb dX3_divide_113 ?_
      refine lv_iload hx hb dX3_divide_114 (lv_at hl 5 rfl) ?_
      refine m_cVl (TT := cT g) (As := [.int (a6 - (1 : Int32)), .int i4]) (rest := [.long (jlshl r7 (31 : Int32))]) X hl.1 hw hS (kX3_window hg hw0 h) mw_365 fX3_window (tW hw0) rfl rfl ⟨rfl, rfl, Nat.le_of_ble_eq_true rfl, Nat.le_of_ble_eq_true rfl⟩ rfl rfl (Nat.le_of_ble_eq_true rfl) dX3_divide_116 (fun r9 σ10 H locs h hw hS => ?_)
      refine lv_lor hx hb dX3_divide_119 ?_
      refine lv_topl (fun b11 eb11 => ?_)
      replace h := h b11 eb11
      refine lv_lstore (lv' := [(11, .long b11), (10, .int a6), (0, .ref (g.1 (4 * w0))), (1, .ref (g.1 (4 * w1))), (2, .ref (g.1 (4 * w2))), (3, .int i3), (4, .int i4), (5, .long l5), (7, .long l7), (9, .int i9)]) hx hb dX3_divide_120 hl (by decide) rfl (fun ls hl => ?_)
      refine lv_lload hx hb dX3_divide_122 (lv_at hl 0 rfl) ?_
      refine lv_aload_n hx hb dX3_divide_124 rfl (lv_at hl 2 rfl) ?_
      refine lv_iload hx hb dX3_divide_125 (lv_at hl 1 rfl) ?_
      refine lv_iconst (v := (2 : Int32)) hx hb dX3_divide_127 (by decide) ?_
      refine lv_isub hx hb dX3_divide_128 ?_
      refine lv_iload hx hb dX3_divide_129 (lv_at hl 6 rfl) ?_
      refine m_cVl (TT := cT g) (As := [.int (a6 - (2 : Int32)), .int i4]) (rest := [.long b11]) X hl.1 hw hS (kX3_window hg hw0 h) mw_365 fX3_window (tW hw0) rfl rfl ⟨rfl, rfl, Nat.le_of_ble_eq_true rfl, Nat.le_of_ble_eq_true rfl⟩ rfl rfl (Nat.le_of_ble_eq_true rfl) dX3_divide_131 (fun r12 σ13 H locs h hw hS => ?_)
      refine lv_lload hx hb dX3_divide_134 (lv_at hl 7 rfl) ?_
      refine lv_lload hx hb dX3_divide_136 (lv_at hl 8 rfl) ?_
      refine m_cSl (TT := cT g) (As := [.long b11, .long r12, .long l5, .long l7]) (rest := []) X hl.1 hw hS (kX3_guess hg h) mw_369 fX3_guess ⟨rfl, rfl, Nat.le_of_ble_eq_true rfl, Nat.le_of_ble_eq_true rfl⟩ rfl rfl (Nat.le_of_ble_eq_true rfl) dX3_divide_138 (fun r14 σ15 H locs h hw hS => ?_)
      refine lv_lstore (lv' := [(13, .long r14), (11, .long b11), (10, .int a6), (0, .ref (g.1 (4 * w0))), (1, .ref (g.1 (4 * w1))), (2, .ref (g.1 (4 * w2))), (3, .int i3), (4, .int i4), (5, .long l5), (7, .long l7), (9, .int i9)]) hx hb dX3_divide_141 hl (by decide) rfl (fun ls hl => ?_)
      refine lv_lload hx hb dX3_divide_143 (lv_at hl 0 rfl) ?_
      refine lv_lconst (v := (0 : Int64)) hx hb dX3_divide_145 (by decide) ?_
      refine W.lcmp hx hb dX3_divide_146 ?_
      refine lv_if_eq (tgt := 175) hx hb dX3_divide_147 (by decide) (fun hc => ?_) (fun hc => ?_)
      · replace h := h.1 hc
        exact wX3_divide_175 hg hw0 hw1 hw2 X hr hN84 i3 i4 l5 l7 i9 r14 _ h H locs ls hw hS (lv_sub hl [3, 4, 5, 6, 7, 8, 9, 10, 0] rfl)
      · replace h := h.2 hc
        refine lv_aload_n hx hb dX3_divide_150 rfl (lv_at hl 3 rfl) ?_
        refine lv_aload_n hx hb dX3_divide_151 rfl (lv_at hl 4 rfl) ?_
        refine lv_lload hx hb dX3_divide_152 (lv_at hl 0 rfl) ?_
        refine lv_iload hx hb dX3_divide_154 (lv_at hl 10 rfl) ?_
        refine m_cVi (TT := cT g) (As := [.ref (g.1 (4 * w1)), .long r14, .int i9]) (rest := []) X hl.1 hw hS (kX3_takesTooMuch hg hw0 hw1 h) mw_375 fX3_takesTooMuch (tW hw0) rfl rfl ⟨rfl, rfl, Nat.le_of_ble_eq_true rfl, Nat.le_of_ble_eq_true rfl⟩ rfl rfl (Nat.le_of_ble_eq_true rfl) dX3_divide_156 (fun r16 σ17 H locs h hw hS => ?_)
        refine lv_if_eq (tgt := 175) hx hb dX3_divide_159 (by decide) (fun hc => ?_) (fun hc => ?_)
        · replace h := h.1 hc
          exact wX3_divide_175 hg hw0 hw1 hw2 X hr hN84 i3 i4 l5 l7 i9 r14 _ h H locs ls hw hS (lv_sub hl [3, 4, 5, 6, 7, 8, 9, 10, 0] rfl)
        · replace h := h.2 hc
          refine lv_aload_n hx hb dX3_divide_162 rfl (lv_at hl 3 rfl) ?_
          refine lv_aload_n hx hb dX3_divide_163 rfl (lv_at hl 4 rfl) ?_
          refine lv_iload hx hb dX3_divide_164 (lv_at hl 10 rfl) ?_
          refine m_cVv (TT := cT g) (As := [.ref (g.1 (4 * w1)), .int i9]) (rest := []) X hl.1 hw hS (kX3_giveBack hg hw0 hw1 h) mw_379 fX3_giveBack (tW hw0) rfl rfl ⟨rfl, rfl, Nat.le_of_ble_eq_true rfl, Nat.le_of_ble_eq_true rfl⟩ rfl rfl (Nat.le_of_ble_eq_true rfl) dX3_divide_166 (fun σ19 H locs h hw hS => ?_)
          refine lv_lload hx hb dX3_divide_169 (lv_at hl 0 rfl) ?_
          refine lv_lconst (v := (1 : Int64)) hx hb dX3_divide_171 (by decide) ?_
          refine lv_lsub hx hb dX3_divide_172 ?_
          refine lv_topl (fun b20 eb20 => ?_)
          replace h := h b20 eb20
          refine lv_lstore (lv' := [(13, .long b20), (11, .long b11), (10, .int a6), (0, .ref (g.1 (4 * w0))), (1, .ref (g.1 (4 * w1))), (2, .ref (g.1 (4 * w2))), (3, .int i3), (4, .int i4), (5, .long l5), (7, .long l7), (9, .int i9)]) hx hb dX3_divide_173 hl (by decide) rfl (fun ls hl => ?_)
          exact wX3_divide_175 hg hw0 hw1 hw2 X hr hN84 i3 i4 l5 l7 i9 b20 _ h H locs ls hw hS (lv_sub hl [3, 4, 5, 6, 7, 8, 9, 10, 0] rfl)
def wpX3_divide_0 (w0 : Nat) (w1 : Nat) (w2 : Nat) (Q : CS → Prop) (σ : CS) : Prop :=
  wpX3_clear w2 σ (fun (σ22 : CS) =>
    ∀ a23 : Int32, a23 = (cS σ22 w0) - (cS σ22 w1) →
    ((cS σ22 w1) = 0 →
      Q σ22) ∧
    (¬ (cS σ22 w1) = 0 →
      (a23 < 0 →
        Q σ22) ∧
      (¬ a23 < 0 →
        (a23 < (Int32.ofNat (capW w2)) →
          vp_in ((cS σ22 w1) - (1 : Int32)) (capW w1) ∧ (
          wpJ6_numberOfLeadingZeros_0f7a4 (cF σ22 w1 ((cS σ22 w1) - (1 : Int32)).toNatClampNeg) σ22 (fun (r24 : Int32) (σ25 : CS) =>
            ∀ a26 : Int32, a26 = r24 - (1 : Int32) →
            wpX3_window w1 ((cS σ25 w1) - (1 : Int32)) a26 σ25 (fun (r27 : Int64) (σ28 : CS) =>
              wpX3_window w1 ((cS σ28 w1) - (2 : Int32)) a26 σ28 (fun (r29 : Int64) (σ30 : CS) =>
                ∃ n, lq6 (wbX3_divide_84 w0 w1 w2 Q) n a23 a26 r27 r29 a23 σ30))))) ∧
        (¬ a23 < (Int32.ofNat (capW w2)) →
          Q σ22))))
set_option maxRecDepth 100000 in
set_option maxHeartbeats 4000000 in
theorem wX3_divide_0 {p : Program} {l : Launch} {e : Env} {s : State} {m : MethodId} {args : Array Value} {below : List Frame} {meth : Method} {c : Code} {D : va_G} {A : Nat → Prop} {g : mG} (hg : inj g) {w0 : Nat} {w1 : Nat} {w2 : Nat} (hw0 : okW w0) (hw1 : okW w1) (hw2 : okW w2) (X : cx p m meth c s args cX3_divide 15 RX3 D (tyG g)) (hr : meth.sig.returnType = none) {Q : CS → Prop} : ∀ (σ : CS), wpX3_divide_0 w0 w1 w2 Q σ → cW p l e rmX3_divide s m args below meth c (MQ below (va_Qv Q (fun u t => wd D A (cT g u) t.heap) A) args s 0 0 A) D A (cT g σ) 0 15 [(0, .ref (g.1 (4 * w0))), (1, .ref (g.1 (4 * w1))), (2, .ref (g.1 (4 * w2)))] := by
  obtain ⟨hx, hb, hml, hown, hts, hK, hlk⟩ := id X
  intro σ h H locs ls hw hS hl
  unfold wpX3_divide_0 at h
  refine lv_aload_n hx hb dX3_divide_0 rfl (lv_at hl 2 rfl) ?_
  refine m_cVv (TT := cT g) (As := []) (rest := []) X hl.1 hw hS (kX3_clear hg hw2 h) mw_291 fX3_clear (tW hw2) rfl rfl ⟨rfl, rfl, Nat.le_of_ble_eq_true rfl, Nat.le_of_ble_eq_true rfl⟩ rfl rfl (Nat.le_of_ble_eq_true rfl) dX3_divide_1 (fun σ22 H locs h hw hS => ?_)
  refine lv_aload_n hx hb dX3_divide_4 rfl (lv_at hl 0 rfl) ?_
  refine m_get (v := .int (cS σ22 w0)) X hw (tW hw0) rfl inA_X3 1 (by decide) mw_100 rfl dX3_divide_5 ?_
  refine lv_aload_n hx hb dX3_divide_8 rfl (lv_at hl 1 rfl) ?_
  refine m_get (v := .int (cS σ22 w1)) X hw (tW hw1) rfl inA_X3 1 (by decide) mw_100 rfl dX3_divide_9 ?_
  refine lv_isub hx hb dX3_divide_12 ?_
  refine lv_topi (fun a23 ea23 => ?_)
  replace h := h a23 ea23
  refine lv_istore_n (lv' := [(3, .int a23), (0, .ref (g.1 (4 * w0))), (1, .ref (g.1 (4 * w1))), (2, .ref (g.1 (4 * w2)))]) hx hb dX3_divide_13 rfl hl (by decide) rfl (fun ls hl => ?_)
  refine lv_aload_n hx hb dX3_divide_14 rfl (lv_at hl 2 rfl) ?_
  refine m_get (v := .int (cS σ22 w1)) X hw (tW hw1) rfl inA_X3 1 (by decide) mw_100 rfl dX3_divide_15 ?_
  refine lv_if_eq (tgt := 34) hx hb dX3_divide_18 (by decide) (fun hc => ?_) (fun hc => ?_)
  · replace h := h.1 hc
    exact m_vret X hr hw hS h dX3_divide_34
  · replace h := h.2 hc
    refine lv_iload_n hx hb dX3_divide_21 rfl (lv_at hl 0 rfl) ?_
    refine lv_if_lt (tgt := 34) hx hb dX3_divide_22 (by decide) (fun hc => ?_) (fun hc => ?_)
    · replace h := h.1 hc
      exact m_vret X hr hw hS h dX3_divide_34
    · replace h := h.2 hc
      refine lv_iload_n hx hb dX3_divide_25 rfl (lv_at hl 0 rfl) ?_
      refine lv_aload_n hx hb dX3_divide_26 rfl (lv_at hl 3 rfl) ?_
      refine m_get (v := .ref (g.1 (4 * w2 + 1))) X hw (tW hw2) rfl inA_X3 0 (by decide) mw_36 rfl dX3_divide_27 ?_
      refine m_alen (v := Int32.ofNat (capW w2)) X hw (tD hw2) 0 rfl rfl dX3_divide_30 ?_
      refine lv_icmp_lt (tgt := 35) hx hb dX3_divide_31 (by decide) (fun hc => ?_) (fun hc => ?_)
      · replace h := h.1 hc
        refine lv_aload_n hx hb dX3_divide_35 rfl (lv_at hl 2 rfl) ?_
        refine m_get (v := .ref (g.1 (4 * w1 + 1))) X hw (tW hw1) rfl inA_X3 0 (by decide) mw_36 rfl dX3_divide_36 ?_
        refine lv_aload_n hx hb dX3_divide_39 rfl (lv_at hl 2 rfl) ?_
        refine m_get (v := .int (cS σ22 w1)) X hw (tW hw1) rfl inA_X3 1 (by decide) mw_100 rfl dX3_divide_40 ?_
        refine lv_iconst (v := (1 : Int32)) hx hb dX3_divide_43 (by decide) ?_
        refine lv_isub hx hb dX3_divide_44 ?_
        obtain ⟨hi, h⟩ := h
        refine m_iald X hw (tD hw1) 0 rfl hi dX3_divide_45 ?_
        refine m_cSi (TT := cT g) (As := [.int (cF σ22 w1 ((cS σ22 w1) - (1 : Int32)).toNatClampNeg)]) (rest := []) X hl.1 hw hS (kJ6_numberOfLeadingZeros_0f7a4 hg h) mw_360 fJ6_numberOfLeadingZeros_0f7a4 ⟨rfl, rfl, Nat.le_of_ble_eq_true rfl, Nat.le_of_ble_eq_true rfl⟩ rfl rfl (Nat.le_of_ble_eq_true rfl) dX3_divide_46 (fun r24 σ25 H locs h hw hS => ?_)
        refine lv_iconst (v := (1 : Int32)) hx hb dX3_divide_49 (by decide) ?_
        refine lv_isub hx hb dX3_divide_50 ?_
        refine lv_topi (fun a26 ea26 => ?_)
        replace h := h a26 ea26
        refine lv_istore (lv' := [(4, .int a26), (3, .int a23), (0, .ref (g.1 (4 * w0))), (1, .ref (g.1 (4 * w1))), (2, .ref (g.1 (4 * w2)))]) hx hb dX3_divide_51 hl (by decide) rfl (fun ls hl => ?_)
        refine lv_aload_n hx hb dX3_divide_53 rfl (lv_at hl 3 rfl) ?_
        refine lv_aload_n hx hb dX3_divide_54 rfl (lv_at hl 3 rfl) ?_
        refine m_get (v := .int (cS σ25 w1)) X hw (tW hw1) rfl inA_X3 1 (by decide) mw_100 rfl dX3_divide_55 ?_
        refine lv_iconst (v := (1 : Int32)) hx hb dX3_divide_58 (by decide) ?_
        refine lv_isub hx hb dX3_divide_59 ?_
        refine lv_iload hx hb dX3_divide_60 (lv_at hl 0 rfl) ?_
        refine m_cVl (TT := cT g) (As := [.int ((cS σ25 w1) - (1 : Int32)), .int a26]) (rest := []) X hl.1 hw hS (kX3_window hg hw1 h) mw_365 fX3_window (tW hw1) rfl rfl ⟨rfl, rfl, Nat.le_of_ble_eq_true rfl, Nat.le_of_ble_eq_true rfl⟩ rfl rfl (Nat.le_of_ble_eq_true rfl) dX3_divide_62 (fun r27 σ28 H locs h hw hS => ?_)
        refine lv_lstore (lv' := [(5, .long r27), (4, .int a26), (3, .int a23), (0, .ref (g.1 (4 * w0))), (1, .ref (g.1 (4 * w1))), (2, .ref (g.1 (4 * w2)))]) hx hb dX3_divide_65 hl (by decide) rfl (fun ls hl => ?_)
        refine lv_aload_n hx hb dX3_divide_67 rfl (lv_at hl 4 rfl) ?_
        refine lv_aload_n hx hb dX3_divide_68 rfl (lv_at hl 4 rfl) ?_
        refine m_get (v := .int (cS σ28 w1)) X hw (tW hw1) rfl inA_X3 1 (by decide) mw_100 rfl dX3_divide_69 ?_
        refine lv_iconst (v := (2 : Int32)) hx hb dX3_divide_72 (by decide) ?_
        refine lv_isub hx hb dX3_divide_73 ?_
        refine lv_iload hx hb dX3_divide_74 (lv_at hl 1 rfl) ?_
        refine m_cVl (TT := cT g) (As := [.int ((cS σ28 w1) - (2 : Int32)), .int a26]) (rest := []) X hl.1 hw hS (kX3_window hg hw1 h) mw_365 fX3_window (tW hw1) rfl rfl ⟨rfl, rfl, Nat.le_of_ble_eq_true rfl, Nat.le_of_ble_eq_true rfl⟩ rfl rfl (Nat.le_of_ble_eq_true rfl) dX3_divide_76 (fun r29 σ30 H locs h hw hS => ?_)
        refine lv_lstore (lv' := [(7, .long r29), (5, .long r27), (4, .int a26), (3, .int a23), (0, .ref (g.1 (4 * w0))), (1, .ref (g.1 (4 * w1))), (2, .ref (g.1 (4 * w2)))]) hx hb dX3_divide_79 hl (by decide) rfl (fun ls hl => ?_)
        refine lv_iload_n hx hb dX3_divide_81 rfl (lv_at hl 3 rfl) ?_
        refine lv_istore (lv' := [(9, .int a23), (7, .long r29), (5, .long r27), (4, .int a26), (3, .int a23), (0, .ref (g.1 (4 * w0))), (1, .ref (g.1 (4 * w1))), (2, .ref (g.1 (4 * w2)))]) hx hb dX3_divide_82 hl (by decide) rfl (fun ls hl => ?_)
        obtain ⟨n9, h⟩ := h
        exact wX3_divide_84 hg hw0 hw1 hw2 X hr n9 a23 a26 r27 r29 a23 _ h H locs ls hw hS (lv_sub hl [5, 6, 7, 4, 3, 2, 1, 0] rfl)
      · replace h := h.2 hc
        exact m_vret X hr hw hS h dX3_divide_34
def wpX3_divide (w0 : Nat) (w1 : Nat) (w2 : Nat) (σ : CS) (Q : CS → Prop) : Prop := wpX3_divide_0 w0 w1 w2 Q σ
theorem kX3_divide {l : Launch} {D : va_G} {A : Nat → Prop} {g : mG} (hg : inj g) {w0 : Nat} {w1 : Nat} {w2 : Nat} (hw0 : okW w0) (hw1 : okW w1) (hw2 : okW w2) {σ : CS} {Q : CS → Prop} (h : wpX3_divide w0 w1 w2 σ Q) : Met l yX3_divide (Cond.code yX3_divide cX3_divide 15 none :: wsA) rmX3_divide (mPc D (tyG g) A (cT g σ) [.ref (g.1 (4 * w0)), .ref (g.1 (4 * w1)), .ref (g.1 (4 * w2))]) (va_Qv Q (fun u t => wd D A (cT g u) t.heap) A) 0 0 A :=
  m_met (by decide +kernel) (Nat.le_of_ble_eq_true rfl) (fun p e s m below meth c X hr H locs ls hw hS hl => wX3_divide_0 hg hw0 hw1 hw2 X hr σ h H locs ls hw hS (lv_sub hl [0, 1, 2] rfl))
theorem fX3_divide : vfit yX3_divide cX3_divide 15 none 2 := ⟨mw_357, mw_358, mw_29, mw_359, by decide +kernel, by decide +kernel, by decide +kernel⟩
