/-! BigPolys$Chain.changes(JZ)I -/
def rmX1_changes : Room := { frames := 4, cells := 0, slots := 0, locals := 103 }
def wpX1_changes_79 (y1 : Int64) (x2 : Int32) (Q : Int32 → CS → Prop) (N9 : Int32 → Int32 → Int32 → CS → Prop) (i4 : Int32) (i5 : Int32) (i6 : Int32) (σ : CS) : Prop :=
  ∀ a1 : Int32, a1 = i6 + (1 : Int32) →
  N9 i4 i5 a1 σ
set_option maxRecDepth 100000 in
set_option maxHeartbeats 4000000 in
theorem wX1_changes_79 {p : Program} {l : Launch} {e : Env} {s : State} {m : MethodId} {args : Array Value} {below : List Frame} {meth : Method} {c : Code} {D : va_G} {A : Nat → Prop} {g : mG} (hg : inj g) {y1 : Int64} {x2 : Int32} (X : cx p m meth c s args cX1_changes 8 RX1 D (tyG g)) (hr : meth.sig.returnType = (some .int)) {Q : Int32 → CS → Prop} {N9 : Int32 → Int32 → Int32 → CS → Prop} (hN9 : ∀ (i4 : Int32) (i5 : Int32) (i6 : Int32) (σ : CS), N9 i4 i5 i6 σ → cW p l e rmX1_changes s m args below meth c (MQ below (va_Qi Q (fun u t => wd D A (cT g u) t.heap) A) args s 0 0 A) D A (cT g σ) 9 8 [(0, .ref (g.1 2006)), (1, .long y1), (3, .int x2), (4, .int i4), (5, .int i5), (6, .int i6)]) : ∀ (i4 : Int32) (i5 : Int32) (i6 : Int32) (σ : CS), wpX1_changes_79 y1 x2 Q N9 i4 i5 i6 σ → cW p l e rmX1_changes s m args below meth c (MQ below (va_Qi Q (fun u t => wd D A (cT g u) t.heap) A) args s 0 0 A) D A (cT g σ) 79 8 [(0, .ref (g.1 2006)), (1, .long y1), (3, .int x2), (4, .int i4), (5, .int i5), (6, .int i6)] := by
  obtain ⟨hx, hb, hml, hown, hts, hK, hlk⟩ := id X
  intro i4 i5 i6 σ h H locs ls hw hS hl
  unfold wpX1_changes_79 at h
  obtain ⟨a1, ea1⟩ : ∃ z : Int32, z = i6 + (1 : Int32) := ⟨_, rfl⟩
  replace h := h a1 ea1
  refine lv_iinc (v := a1) (lv' := [(6, .int a1), (0, .ref (g.1 2006)), (1, .long y1), (3, .int x2), (4, .int i4), (5, .int i5)]) hx hb dX1_changes_79 hl (k := 5) rfl (by rw [ea1]; rfl) (by decide) rfl (fun ls hl => ?_)
  refine lv_goto (tgt := 9) hx hb dX1_changes_82 (by decide) ?_
  exact hN9 i4 i5 a1 _ h H locs ls hw hS (lv_sub hl [1, 2, 3, 4, 5, 0] rfl)
def wpX1_changes_65 (y1 : Int64) (x2 : Int32) (Q : Int32 → CS → Prop) (N9 : Int32 → Int32 → Int32 → CS → Prop) (i4 : Int32) (i5 : Int32) (i6 : Int32) (i7 : Int32) (σ : CS) : Prop :=
  (¬ i7 = 0 →
    wpX1_changes_79 y1 x2 Q N9 i4 i7 i6 σ) ∧
  (i7 = 0 →
    wpX1_changes_79 y1 x2 Q N9 i4 i5 i6 σ)
set_option maxRecDepth 100000 in
set_option maxHeartbeats 4000000 in
theorem wX1_changes_65 {p : Program} {l : Launch} {e : Env} {s : State} {m : MethodId} {args : Array Value} {below : List Frame} {meth : Method} {c : Code} {D : va_G} {A : Nat → Prop} {g : mG} (hg : inj g) {y1 : Int64} {x2 : Int32} (X : cx p m meth c s args cX1_changes 8 RX1 D (tyG g)) (hr : meth.sig.returnType = (some .int)) {Q : Int32 → CS → Prop} {N9 : Int32 → Int32 → Int32 → CS → Prop} (hN9 : ∀ (i4 : Int32) (i5 : Int32) (i6 : Int32) (σ : CS), N9 i4 i5 i6 σ → cW p l e rmX1_changes s m args below meth c (MQ below (va_Qi Q (fun u t => wd D A (cT g u) t.heap) A) args s 0 0 A) D A (cT g σ) 9 8 [(0, .ref (g.1 2006)), (1, .long y1), (3, .int x2), (4, .int i4), (5, .int i5), (6, .int i6)]) : ∀ (i4 : Int32) (i5 : Int32) (i6 : Int32) (i7 : Int32) (σ : CS), wpX1_changes_65 y1 x2 Q N9 i4 i5 i6 i7 σ → cW p l e rmX1_changes s m args below meth c (MQ below (va_Qi Q (fun u t => wd D A (cT g u) t.heap) A) args s 0 0 A) D A (cT g σ) 65 8 [(0, .ref (g.1 2006)), (1, .long y1), (3, .int x2), (4, .int i4), (5, .int i5), (6, .int i6), (7, .int i7)] := by
  obtain ⟨hx, hb, hml, hown, hts, hK, hlk⟩ := id X
  intro i4 i5 i6 i7 σ h H locs ls hw hS hl
  unfold wpX1_changes_65 at h
  refine lv_iload hx hb dX1_changes_65 (lv_at hl 6 rfl) ?_
  refine lv_if_ne (tgt := 75) hx hb dX1_changes_67 (by decide) (fun hc => ?_) (fun hc => ?_)
  · replace h := h.1 hc
    refine lv_iload hx hb dX1_changes_75 (lv_at hl 6 rfl) ?_
    refine lv_istore (lv' := [(5, .int i7), (0, .ref (g.1 2006)), (1, .long y1), (3, .int x2), (4, .int i4), (6, .int i6), (7, .int i7)]) hx hb dX1_changes_77 hl (by decide) rfl (fun ls hl => ?_)
    exact wX1_changes_79 hg X hr hN9 i4 i7 i6 _ h H locs ls hw hS (lv_sub hl [1, 2, 3, 4, 0, 5] rfl)
  · replace h := h.2 hc
    refine lv_iload hx hb dX1_changes_70 (lv_at hl 4 rfl) ?_
    refine lv_goto (tgt := 77) hx hb dX1_changes_72 (by decide) ?_
    refine lv_istore (lv' := [(5, .int i5), (0, .ref (g.1 2006)), (1, .long y1), (3, .int x2), (4, .int i4), (6, .int i6), (7, .int i7)]) hx hb dX1_changes_77 hl (by decide) rfl (fun ls hl => ?_)
    exact wX1_changes_79 hg X hr hN9 i4 i5 i6 _ h H locs ls hw hS (lv_sub hl [1, 2, 3, 4, 0, 5] rfl)
def wpX1_changes_54 (y1 : Int64) (x2 : Int32) (Q : Int32 → CS → Prop) (N9 : Int32 → Int32 → Int32 → CS → Prop) (i4 : Int32) (i5 : Int32) (i6 : Int32) (i7 : Int32) (σ : CS) : Prop :=
  (0 ≤ (i7 * i5) →
    wpX1_changes_65 y1 x2 Q N9 i4 i5 i6 i7 σ) ∧
  (¬ 0 ≤ (i7 * i5) →
    ∀ a2 : Int32, a2 = i4 + (1 : Int32) →
    wpX1_changes_65 y1 x2 Q N9 a2 i5 i6 i7 σ)
set_option maxRecDepth 100000 in
set_option maxHeartbeats 4000000 in
theorem wX1_changes_54 {p : Program} {l : Launch} {e : Env} {s : State} {m : MethodId} {args : Array Value} {below : List Frame} {meth : Method} {c : Code} {D : va_G} {A : Nat → Prop} {g : mG} (hg : inj g) {y1 : Int64} {x2 : Int32} (X : cx p m meth c s args cX1_changes 8 RX1 D (tyG g)) (hr : meth.sig.returnType = (some .int)) {Q : Int32 → CS → Prop} {N9 : Int32 → Int32 → Int32 → CS → Prop} (hN9 : ∀ (i4 : Int32) (i5 : Int32) (i6 : Int32) (σ : CS), N9 i4 i5 i6 σ → cW p l e rmX1_changes s m args below meth c (MQ below (va_Qi Q (fun u t => wd D A (cT g u) t.heap) A) args s 0 0 A) D A (cT g σ) 9 8 [(0, .ref (g.1 2006)), (1, .long y1), (3, .int x2), (4, .int i4), (5, .int i5), (6, .int i6)]) : ∀ (i4 : Int32) (i5 : Int32) (i6 : Int32) (i7 : Int32) (σ : CS), wpX1_changes_54 y1 x2 Q N9 i4 i5 i6 i7 σ → cW p l e rmX1_changes s m args below meth c (MQ below (va_Qi Q (fun u t => wd D A (cT g u) t.heap) A) args s 0 0 A) D A (cT g σ) 54 8 [(0, .ref (g.1 2006)), (1, .long y1), (3, .int x2), (4, .int i4), (5, .int i5), (6, .int i6), (7, .int i7)] := by
  obtain ⟨hx, hb, hml, hown, hts, hK, hlk⟩ := id X
  intro i4 i5 i6 i7 σ h H locs ls hw hS hl
  unfold wpX1_changes_54 at h
  refine lv_iload hx hb dX1_changes_54 (lv_at hl 6 rfl) ?_
  refine lv_iload hx hb dX1_changes_56 (lv_at hl 4 rfl) ?_
  refine lv_imul hx hb dX1_changes_58 ?_
  refine lv_if_ge (tgt := 65) hx hb dX1_changes_59 (by decide) (fun hc => ?_) (fun hc => ?_)
  · replace h := h.1 hc
    exact wX1_changes_65 hg X hr hN9 i4 i5 i6 i7 _ h H locs ls hw hS (lv_sub hl [0, 1, 2, 3, 4, 5, 6] rfl)
  · replace h := h.2 hc
    obtain ⟨a2, ea2⟩ : ∃ z : Int32, z = i4 + (1 : Int32) := ⟨_, rfl⟩
    replace h := h a2 ea2
    refine lv_iinc (v := a2) (lv' := [(4, .int a2), (0, .ref (g.1 2006)), (1, .long y1), (3, .int x2), (5, .int i5), (6, .int i6), (7, .int i7)]) hx hb dX1_changes_62 hl (k := 3) rfl (by rw [ea2]; rfl) (by decide) rfl (fun ls hl => ?_)
    exact wX1_changes_65 hg X hr hN9 a2 i5 i6 i7 _ h H locs ls hw hS (lv_sub hl [1, 2, 3, 0, 4, 5, 6] rfl)
def wbX1_changes_9 (y1 : Int64) (x2 : Int32) (Q : Int32 → CS → Prop) (N9 : Int32 → Int32 → Int32 → CS → Prop) (i4 : Int32) (i5 : Int32) (i6 : Int32) (σ : CS) : Prop :=
  ((cK σ 0) < i6 →
    Q i4 σ) ∧
  (¬ (cK σ 0) < i6 →
    (x2 = 0 →
      vp_in i6 10 ∧ (
      wpX0_signAt (10 + i6.toNatClampNeg) y1 (1 : Int64) σ (fun (r4 : Int32) (σ5 : CS) =>
        wpX1_changes_54 y1 x2 Q N9 i4 i5 i6 r4 σ5))) ∧
    (¬ x2 = 0 →
      vp_in i6 10 ∧ (
      wpX2_signBeyond (10 + i6.toNatClampNeg) y1 σ (fun (r7 : Int32) (σ8 : CS) =>
        wpX1_changes_54 y1 x2 Q N9 i4 i5 i6 r7 σ8))))
set_option maxRecDepth 100000 in
set_option maxHeartbeats 4000000 in
theorem wX1_changes_9 {p : Program} {l : Launch} {e : Env} {s : State} {m : MethodId} {args : Array Value} {below : List Frame} {meth : Method} {c : Code} {D : va_G} {A : Nat → Prop} {g : mG} (hg : inj g) {y1 : Int64} {x2 : Int32} (X : cx p m meth c s args cX1_changes 8 RX1 D (tyG g)) (hr : meth.sig.returnType = (some .int)) {Q : Int32 → CS → Prop} : ∀ (n : Nat) (i4 : Int32) (i5 : Int32) (i6 : Int32) (σ : CS), lq4 (wbX1_changes_9 y1 x2 Q) n i4 i5 i6 σ → cW p l e rmX1_changes s m args below meth c (MQ below (va_Qi Q (fun u t => wd D A (cT g u) t.heap) A) args s 0 0 A) D A (cT g σ) 9 8 [(0, .ref (g.1 2006)), (1, .long y1), (3, .int x2), (4, .int i4), (5, .int i5), (6, .int i6)] := by
  obtain ⟨hx, hb, hml, hown, hts, hK, hlk⟩ := id X
  intro n
  induction n with
  | zero =>
    intro i4 i5 i6 σ h
    exact h.elim
  | succ n hN9 =>
    intro i4 i5 i6 σ h H locs ls hw hS hl
    replace h : wbX1_changes_9 y1 x2 Q (lq4 (wbX1_changes_9 y1 x2 Q) n) i4 i5 i6 σ := h
    unfold wbX1_changes_9 at h
    refine lv_iload hx hb dX1_changes_9 (lv_at hl 5 rfl) ?_
    refine lv_aload_n hx hb dX1_changes_11 rfl (lv_at hl 0 rfl) ?_
    refine m_get (v := .int (cK σ 0)) X hw tC rfl inA_X1 6 (by decide) mw_429 rfl dX1_changes_12 ?_
    refine lv_icmp_gt (tgt := 85) hx hb dX1_changes_15 (by decide) (fun hc => ?_) (fun hc => ?_)
    · replace h := h.1 hc
      refine lv_iload hx hb dX1_changes_85 (lv_at hl 3 rfl) ?_
      exact m_iret X hr hw hS h dX1_changes_87
    · replace h := h.2 hc
      refine lv_iload_n hx hb dX1_changes_18 rfl (lv_at hl 2 rfl) ?_
      refine lv_if_eq (tgt := 36) hx hb dX1_changes_19 (by decide) (fun hc => ?_) (fun hc => ?_)
      · replace h := h.1 hc
        refine lv_aload_n hx hb dX1_changes_36 rfl (lv_at hl 0 rfl) ?_
        refine m_get (v := .ref (g.1 2002)) X hw tC rfl inA_X1 0 (by decide) mw_44 rfl dX1_changes_37 ?_
        refine lv_aload_n hx hb dX1_changes_40 rfl (lv_at hl 0 rfl) ?_
        refine m_get (v := .ref (g.1 2003)) X hw tC rfl inA_X1 1 (by decide) mw_46 rfl dX1_changes_41 ?_
        refine lv_iload hx hb dX1_changes_44 (lv_at hl 5 rfl) ?_
        obtain ⟨hi3, h⟩ := h
        refine m_aald X hw tL 3 rfl hi3 dX1_changes_46 ?_
        refine lv_lload_n hx hb dX1_changes_47 rfl (lv_at hl 1 rfl) ?_
        refine lv_lconst (v := (1 : Int64)) hx hb dX1_changes_48 (by decide) ?_
        refine m_cVi (TT := cT g) (As := [.ref (g.1 (4 * (10 + i6.toNatClampNeg) + 2)), .long y1, .long (1 : Int64)]) (rest := []) X hl.1 hw hS (kX0_signAt hg (okP_l hi3) h) mw_539 fX0_signAt tB rfl rfl ⟨rfl, rfl, Nat.le_of_ble_eq_true rfl, Nat.le_of_ble_eq_true rfl⟩ rfl rfl (Nat.le_of_ble_eq_true rfl) dX1_changes_49 (fun r4 σ5 H locs h hw hS => ?_)
        refine lv_istore (lv' := [(7, .int r4), (0, .ref (g.1 2006)), (1, .long y1), (3, .int x2), (4, .int i4), (5, .int i5), (6, .int i6)]) hx hb dX1_changes_52 hl (by decide) rfl (fun ls hl => ?_)
        exact wX1_changes_54 hg X hr hN9 i4 i5 i6 r4 _ h H locs ls hw hS (lv_sub hl [1, 2, 3, 4, 5, 6, 0] rfl)
      · replace h := h.2 hc
        refine lv_aload_n hx hb dX1_changes_22 rfl (lv_at hl 0 rfl) ?_
        refine m_get (v := .ref (g.1 2003)) X hw tC rfl inA_X1 1 (by decide) mw_46 rfl dX1_changes_23 ?_
        refine lv_iload hx hb dX1_changes_26 (lv_at hl 5 rfl) ?_
        obtain ⟨hi6, h⟩ := h
        refine m_aald X hw tL 3 rfl hi6 dX1_changes_28 ?_
        refine lv_lload_n hx hb dX1_changes_29 rfl (lv_at hl 1 rfl) ?_
        refine m_cVi (TT := cT g) (As := [.long y1]) (rest := []) X hl.1 hw hS (kX2_signBeyond hg (okP_l hi6) h) mw_534 fX2_signBeyond (tP (okP_l hi6)) rfl rfl ⟨rfl, rfl, Nat.le_of_ble_eq_true rfl, Nat.le_of_ble_eq_true rfl⟩ rfl rfl (Nat.le_of_ble_eq_true rfl) dX1_changes_30 (fun r7 σ8 H locs h hw hS => ?_)
        refine lv_goto (tgt := 52) hx hb dX1_changes_33 (by decide) ?_
        refine lv_istore (lv' := [(7, .int r7), (0, .ref (g.1 2006)), (1, .long y1), (3, .int x2), (4, .int i4), (5, .int i5), (6, .int i6)]) hx hb dX1_changes_52 hl (by decide) rfl (fun ls hl => ?_)
        exact wX1_changes_54 hg X hr hN9 i4 i5 i6 r7 _ h H locs ls hw hS (lv_sub hl [1, 2, 3, 4, 5, 6, 0] rfl)
def wpX1_changes_0 (y1 : Int64) (x2 : Int32) (Q : Int32 → CS → Prop) (σ : CS) : Prop :=
  ∃ n, lq4 (wbX1_changes_9 y1 x2 Q) n (0 : Int32) (0 : Int32) (0 : Int32) σ
set_option maxRecDepth 100000 in
set_option maxHeartbeats 4000000 in
theorem wX1_changes_0 {p : Program} {l : Launch} {e : Env} {s : State} {m : MethodId} {args : Array Value} {below : List Frame} {meth : Method} {c : Code} {D : va_G} {A : Nat → Prop} {g : mG} (hg : inj g) {y1 : Int64} {x2 : Int32} (X : cx p m meth c s args cX1_changes 8 RX1 D (tyG g)) (hr : meth.sig.returnType = (some .int)) {Q : Int32 → CS → Prop} : ∀ (σ : CS), wpX1_changes_0 y1 x2 Q σ → cW p l e rmX1_changes s m args below meth c (MQ below (va_Qi Q (fun u t => wd D A (cT g u) t.heap) A) args s 0 0 A) D A (cT g σ) 0 8 [(0, .ref (g.1 2006)), (1, .long y1), (3, .int x2)] := by
  obtain ⟨hx, hb, hml, hown, hts, hK, hlk⟩ := id X
  intro σ h H locs ls hw hS hl
  unfold wpX1_changes_0 at h
  refine lv_iconst (v := (0 : Int32)) hx hb dX1_changes_0 (by decide) ?_
  refine lv_istore (lv' := [(4, .int (0 : Int32)), (0, .ref (g.1 2006)), (1, .long y1), (3, .int x2)]) hx hb dX1_changes_1 hl (by decide) rfl (fun ls hl => ?_)
  refine lv_iconst (v := (0 : Int32)) hx hb dX1_changes_3 (by decide) ?_
  refine lv_istore (lv' := [(5, .int (0 : Int32)), (4, .int (0 : Int32)), (0, .ref (g.1 2006)), (1, .long y1), (3, .int x2)]) hx hb dX1_changes_4 hl (by decide) rfl (fun ls hl => ?_)
  refine lv_iconst (v := (0 : Int32)) hx hb dX1_changes_6 (by decide) ?_
  refine lv_istore (lv' := [(6, .int (0 : Int32)), (5, .int (0 : Int32)), (4, .int (0 : Int32)), (0, .ref (g.1 2006)), (1, .long y1), (3, .int x2)]) hx hb dX1_changes_7 hl (by decide) rfl (fun ls hl => ?_)
  obtain ⟨n9, h⟩ := h
  exact wX1_changes_9 hg X hr n9 (0 : Int32) (0 : Int32) (0 : Int32) _ h H locs ls hw hS (lv_sub hl [3, 4, 5, 2, 1, 0] rfl)
def wpX1_changes (y1 : Int64) (x2 : Int32) (σ : CS) (Q : Int32 → CS → Prop) : Prop := wpX1_changes_0 y1 x2 Q σ
theorem kX1_changes {l : Launch} {D : va_G} {A : Nat → Prop} {g : mG} (hg : inj g) {y1 : Int64} {x2 : Int32} {σ : CS} {Q : Int32 → CS → Prop} (h : wpX1_changes y1 x2 σ Q) : Met l yX1_changes (Cond.code yX1_changes cX1_changes 8 (some .int) :: wsA) rmX1_changes (mPc D (tyG g) A (cT g σ) [.ref (g.1 2006), .long y1, .int x2]) (va_Qi Q (fun u t => wd D A (cT g u) t.heap) A) 0 0 A :=
  m_met (by decide +kernel) (Nat.le_of_ble_eq_true rfl) (fun p e s m below meth c X hr H locs ls hw hS hl => wX1_changes_0 hg X hr σ h H locs ls hw hS (lv_sub hl [0, 1, 2] rfl))
theorem fX1_changes : vfit yX1_changes cX1_changes 8 (some .int) 2 := ⟨mw_531, mw_532, mw_18, mw_533, by decide +kernel, by decide +kernel, by decide +kernel⟩
/-! BigPolys$Chain.rootsBelow(JI)I -/
def rmX1_rootsBelow : Room := { frames := 5, cells := 0, slots := 0, locals := 130 }
def wpX1_rootsBelow_0 (y1 : Int64) (x2 : Int32) (Q : Int32 → CS → Prop) (σ : CS) : Prop :=
  wpX1_changes y1 (0 : Int32) σ (fun (r1 : Int32) (σ2 : CS) =>
    ∀ a3 : Int32, a3 = x2 - r1 →
    vp_in (0 : Int32) 10 ∧ (
    wpX0_signAt (10 + (0 : Int32).toNatClampNeg) y1 (1 : Int64) σ2 (fun (r5 : Int32) (σ6 : CS) =>
      (¬ r5 = 0 →
        Q a3 σ6) ∧
      (r5 = 0 →
        Q (a3 - (1 : Int32)) σ6))))
set_option maxRecDepth 100000 in
set_option maxHeartbeats 4000000 in
theorem wX1_rootsBelow_0 {p : Program} {l : Launch} {e : Env} {s : State} {m : MethodId} {args : Array Value} {below : List Frame} {meth : Method} {c : Code} {D : va_G} {A : Nat → Prop} {g : mG} (hg : inj g) {y1 : Int64} {x2 : Int32} (X : cx p m meth c s args cX1_rootsBelow 5 RX1 D (tyG g)) (hr : meth.sig.returnType = (some .int)) {Q : Int32 → CS → Prop} : ∀ (σ : CS), wpX1_rootsBelow_0 y1 x2 Q σ → cW p l e rmX1_rootsBelow s m args below meth c (MQ below (va_Qi Q (fun u t => wd D A (cT g u) t.heap) A) args s 0 0 A) D A (cT g σ) 0 5 [(0, .ref (g.1 2006)), (1, .long y1), (3, .int x2)] := by
  obtain ⟨hx, hb, hml, hown, hts, hK, hlk⟩ := id X
  intro σ h H locs ls hw hS hl
  unfold wpX1_rootsBelow_0 at h
  refine lv_iload_n hx hb dX1_rootsBelow_0 rfl (lv_at hl 2 rfl) ?_
  refine lv_aload_n hx hb dX1_rootsBelow_1 rfl (lv_at hl 0 rfl) ?_
  refine lv_lload_n hx hb dX1_rootsBelow_2 rfl (lv_at hl 1 rfl) ?_
  refine lv_iconst (v := (0 : Int32)) hx hb dX1_rootsBelow_3 (by decide) ?_
  refine m_cVi (TT := cT g) (As := [.long y1, .int (0 : Int32)]) (rest := [.int x2]) X hl.1 hw hS (kX1_changes hg h) mw_580 fX1_changes tC rfl rfl ⟨rfl, rfl, Nat.le_of_ble_eq_true rfl, Nat.le_of_ble_eq_true rfl⟩ rfl rfl (Nat.le_of_ble_eq_true rfl) dX1_rootsBelow_4 (fun r1 σ2 H locs h hw hS => ?_)
  refine lv_isub hx hb dX1_rootsBelow_7 ?_
  refine lv_topi (fun a3 ea3 => ?_)
  replace h := h a3 ea3
  refine lv_istore (lv' := [(4, .int a3), (0, .ref (g.1 2006)), (1, .long y1), (3, .int x2)]) hx hb dX1_rootsBelow_8 hl (by decide) rfl (fun ls hl => ?_)
  refine lv_aload_n hx hb dX1_rootsBelow_10 rfl (lv_at hl 1 rfl) ?_
  refine m_get (v := .ref (g.1 2002)) X hw tC rfl inA_X1 0 (by decide) mw_44 rfl dX1_rootsBelow_11 ?_
  refine lv_aload_n hx hb dX1_rootsBelow_14 rfl (lv_at hl 1 rfl) ?_
  refine m_get (v := .ref (g.1 2003)) X hw tC rfl inA_X1 1 (by decide) mw_46 rfl dX1_rootsBelow_15 ?_
  refine lv_iconst (v := (0 : Int32)) hx hb dX1_rootsBelow_18 (by decide) ?_
  obtain ⟨hi4, h⟩ := h
  refine m_aald X hw tL 3 rfl hi4 dX1_rootsBelow_19 ?_
  refine lv_lload_n hx hb dX1_rootsBelow_20 rfl (lv_at hl 2 rfl) ?_
  refine lv_lconst (v := (1 : Int64)) hx hb dX1_rootsBelow_21 (by decide) ?_
  refine m_cVi (TT := cT g) (As := [.ref (g.1 (4 * (10 + (0 : Int32).toNatClampNeg) + 2)), .long y1, .long (1 : Int64)]) (rest := []) X hl.1 hw hS (kX0_signAt hg (okP_l hi4) h) mw_539 fX0_signAt tB rfl rfl ⟨rfl, rfl, Nat.le_of_ble_eq_true rfl, Nat.le_of_ble_eq_true rfl⟩ rfl rfl (Nat.le_of_ble_eq_true rfl) dX1_rootsBelow_22 (fun r5 σ6 H locs h hw hS => ?_)
  refine lv_if_ne (tgt := 35) hx hb dX1_rootsBelow_25 (by decide) (fun hc => ?_) (fun hc => ?_)
  · replace h := h.1 hc
    refine lv_iload hx hb dX1_rootsBelow_35 (lv_at hl 0 rfl) ?_
    exact m_iret X hr hw hS h dX1_rootsBelow_37
  · replace h := h.2 hc
    refine lv_iload hx hb dX1_rootsBelow_28 (lv_at hl 0 rfl) ?_
    refine lv_iconst (v := (1 : Int32)) hx hb dX1_rootsBelow_30 (by decide) ?_
    refine lv_isub hx hb dX1_rootsBelow_31 ?_
    refine lv_goto (tgt := 37) hx hb dX1_rootsBelow_32 (by decide) ?_
    exact m_iret X hr hw hS h dX1_rootsBelow_37
def wpX1_rootsBelow (y1 : Int64) (x2 : Int32) (σ : CS) (Q : Int32 → CS → Prop) : Prop := wpX1_rootsBelow_0 y1 x2 Q σ
theorem kX1_rootsBelow {l : Launch} {D : va_G} {A : Nat → Prop} {g : mG} (hg : inj g) {y1 : Int64} {x2 : Int32} {σ : CS} {Q : Int32 → CS → Prop} (h : wpX1_rootsBelow y1 x2 σ Q) : Met l yX1_rootsBelow (Cond.code yX1_rootsBelow cX1_rootsBelow 5 (some .int) :: wsA) rmX1_rootsBelow (mPc D (tyG g) A (cT g σ) [.ref (g.1 2006), .long y1, .int x2]) (va_Qi Q (fun u t => wd D A (cT g u) t.heap) A) 0 0 A :=
  m_met (by decide +kernel) (Nat.le_of_ble_eq_true rfl) (fun p e s m below meth c X hr H locs ls hw hS hl => wX1_rootsBelow_0 hg X hr σ h H locs ls hw hS (lv_sub hl [0, 1, 2] rfl))
theorem fX1_rootsBelow : vfit yX1_rootsBelow cX1_rootsBelow 5 (some .int) 2 := ⟨mw_582, mw_583, mw_18, mw_584, by decide +kernel, by decide +kernel, by decide +kernel⟩
/-! BigPolys$Chain.floorOfRoot(I)J -/
def rmX1_floorOfRoot : Room := { frames := 6, cells := 0, slots := 0, locals := 154 }
def wpX1_floorOfRoot_101 (x1 : Int32) (Q : Int64 → CS → Prop) (l3 : Int64) (σ : CS) : Prop :=
  Q l3 σ
set_option maxRecDepth 100000 in
set_option maxHeartbeats 4000000 in
theorem wX1_floorOfRoot_101 {p : Program} {l : Launch} {e : Env} {s : State} {m : MethodId} {args : Array Value} {below : List Frame} {meth : Method} {c : Code} {D : va_G} {A : Nat → Prop} {g : mG} (hg : inj g) {x1 : Int32} (X : cx p m meth c s args cX1_floorOfRoot 10 RX1 D (tyG g)) (hr : meth.sig.returnType = (some .long)) {Q : Int64 → CS → Prop} : ∀ (l3 : Int64) (σ : CS), wpX1_floorOfRoot_101 x1 Q l3 σ → cW p l e rmX1_floorOfRoot s m args below meth c (MQ below (va_Ql Q (fun u t => wd D A (cT g u) t.heap) A) args s 0 0 A) D A (cT g σ) 101 10 [(0, .ref (g.1 2006)), (1, .int x1), (3, .long l3)] := by
  obtain ⟨hx, hb, hml, hown, hts, hK, hlk⟩ := id X
  intro l3 σ h H locs ls hw hS hl
  unfold wpX1_floorOfRoot_101 at h
  refine lv_lload_n hx hb dX1_floorOfRoot_101 rfl (lv_at hl 2 rfl) ?_
  exact m_lret X hr hw hS h dX1_floorOfRoot_102
def wpX1_floorOfRoot_95 (x1 : Int32) (Q : Int64 → CS → Prop) (N46 : Int32 → Int64 → Int64 → Int32 → CS → Prop) (i2 : Int32) (l3 : Int64) (l5 : Int64) (i7 : Int32) (σ : CS) : Prop :=
  ∀ a1 : Int32, a1 = i7 + (1 : Int32) →
  N46 i2 l3 l5 a1 σ
set_option maxRecDepth 100000 in
set_option maxHeartbeats 4000000 in
theorem wX1_floorOfRoot_95 {p : Program} {l : Launch} {e : Env} {s : State} {m : MethodId} {args : Array Value} {below : List Frame} {meth : Method} {c : Code} {D : va_G} {A : Nat → Prop} {g : mG} (hg : inj g) {x1 : Int32} (X : cx p m meth c s args cX1_floorOfRoot 10 RX1 D (tyG g)) (hr : meth.sig.returnType = (some .long)) {Q : Int64 → CS → Prop} {N46 : Int32 → Int64 → Int64 → Int32 → CS → Prop} (hN46 : ∀ (i2 : Int32) (l3 : Int64) (l5 : Int64) (i7 : Int32) (σ : CS), N46 i2 l3 l5 i7 σ → cW p l e rmX1_floorOfRoot s m args below meth c (MQ below (va_Ql Q (fun u t => wd D A (cT g u) t.heap) A) args s 0 0 A) D A (cT g σ) 46 10 [(0, .ref (g.1 2006)), (1, .int x1), (2, .int i2), (3, .long l3), (5, .long l5), (7, .int i7)]) : ∀ (i2 : Int32) (l3 : Int64) (l5 : Int64) (i7 : Int32) (σ : CS), wpX1_floorOfRoot_95 x1 Q N46 i2 l3 l5 i7 σ → cW p l e rmX1_floorOfRoot s m args below meth c (MQ below (va_Ql Q (fun u t => wd D A (cT g u) t.heap) A) args s 0 0 A) D A (cT g σ) 95 10 [(0, .ref (g.1 2006)), (1, .int x1), (2, .int i2), (3, .long l3), (5, .long l5), (7, .int i7)] := by
  obtain ⟨hx, hb, hml, hown, hts, hK, hlk⟩ := id X
  intro i2 l3 l5 i7 σ h H locs ls hw hS hl
  unfold wpX1_floorOfRoot_95 at h
  obtain ⟨a1, ea1⟩ : ∃ z : Int32, z = i7 + (1 : Int32) := ⟨_, rfl⟩
  replace h := h a1 ea1
  refine lv_iinc (v := a1) (lv' := [(7, .int a1), (0, .ref (g.1 2006)), (1, .int x1), (2, .int i2), (3, .long l3), (5, .long l5)]) hx hb dX1_floorOfRoot_95 hl (k := 5) rfl (by rw [ea1]; rfl) (by decide) rfl (fun ls hl => ?_)
  refine lv_goto (tgt := 46) hx hb dX1_floorOfRoot_98 (by decide) ?_
  exact hN46 i2 l3 l5 a1 _ h H locs ls hw hS (lv_sub hl [1, 2, 3, 4, 5, 0] rfl)
def wbX1_floorOfRoot_46 (x1 : Int32) (Q : Int64 → CS → Prop) (N46 : Int32 → Int64 → Int64 → Int32 → CS → Prop) (i2 : Int32) (l3 : Int64) (l5 : Int64) (i7 : Int32) (σ : CS) : Prop :=
  ((64 : Int32) ≤ i7 →
    wpX1_floorOfRoot_101 x1 Q l3 σ) ∧
  (¬ (64 : Int32) ≤ i7 →
    ((lg_cmp (l5 - l3) (1 : Int64)) ≤ 0 →
      wpX1_floorOfRoot_101 x1 Q l3 σ) ∧
    (¬ (lg_cmp (l5 - l3) (1 : Int64)) ≤ 0 →
      ∀ b2 : Int64, b2 = l3 + ((l5 - l3) / (2 : Int64)) →
      wpX1_rootsBelow b2 i2 σ (fun (r3 : Int32) (σ4 : CS) =>
        (x1 < r3 →
          wpX1_floorOfRoot_95 x1 Q N46 i2 l3 b2 i7 σ4) ∧
        (¬ x1 < r3 →
          wpX1_floorOfRoot_95 x1 Q N46 i2 b2 l5 i7 σ4))))
set_option maxRecDepth 100000 in
set_option maxHeartbeats 4000000 in
theorem wX1_floorOfRoot_46 {p : Program} {l : Launch} {e : Env} {s : State} {m : MethodId} {args : Array Value} {below : List Frame} {meth : Method} {c : Code} {D : va_G} {A : Nat → Prop} {g : mG} (hg : inj g) {x1 : Int32} (X : cx p m meth c s args cX1_floorOfRoot 10 RX1 D (tyG g)) (hr : meth.sig.returnType = (some .long)) {Q : Int64 → CS → Prop} : ∀ (n : Nat) (i2 : Int32) (l3 : Int64) (l5 : Int64) (i7 : Int32) (σ : CS), lq5 (wbX1_floorOfRoot_46 x1 Q) n i2 l3 l5 i7 σ → cW p l e rmX1_floorOfRoot s m args below meth c (MQ below (va_Ql Q (fun u t => wd D A (cT g u) t.heap) A) args s 0 0 A) D A (cT g σ) 46 10 [(0, .ref (g.1 2006)), (1, .int x1), (2, .int i2), (3, .long l3), (5, .long l5), (7, .int i7)] := by
  obtain ⟨hx, hb, hml, hown, hts, hK, hlk⟩ := id X
  intro n
  induction n with
  | zero =>
    intro i2 l3 l5 i7 σ h
    exact h.elim
  | succ n hN46 =>
    intro i2 l3 l5 i7 σ h H locs ls hw hS hl
    replace h : wbX1_floorOfRoot_46 x1 Q (lq5 (wbX1_floorOfRoot_46 x1 Q) n) i2 l3 l5 i7 σ := h
    unfold wbX1_floorOfRoot_46 at h
    refine lv_iload hx hb dX1_floorOfRoot_46 (lv_at hl 5 rfl) ?_
    refine lv_bipush (v := (64 : Int32)) hx hb dX1_floorOfRoot_48 (by decide) ?_
    refine lv_icmp_ge (tgt := 101) hx hb dX1_floorOfRoot_50 (by decide) (fun hc => ?_) (fun hc => ?_)
    · replace h := h.1 hc
      exact wX1_floorOfRoot_101 hg X hr l3 _ h H locs ls hw hS (lv_sub hl [0, 1, 3] rfl)
    · replace h := h.2 hc
      refine lv_lload hx hb dX1_floorOfRoot_53 (lv_at hl 4 rfl) ?_
      refine lv_lload_n hx hb dX1_floorOfRoot_55 rfl (lv_at hl 3 rfl) ?_
      refine lv_lsub hx hb dX1_floorOfRoot_56 ?_
      refine lv_lconst (v := (1 : Int64)) hx hb dX1_floorOfRoot_57 (by decide) ?_
      refine W.lcmp hx hb dX1_floorOfRoot_58 ?_
      refine lv_if_le (tgt := 101) hx hb dX1_floorOfRoot_59 (by decide) (fun hc => ?_) (fun hc => ?_)
      · replace h := h.1 hc
        exact wX1_floorOfRoot_101 hg X hr l3 _ h H locs ls hw hS (lv_sub hl [0, 1, 3] rfl)
      · replace h := h.2 hc
        refine lv_lload_n hx hb dX1_floorOfRoot_62 rfl (lv_at hl 3 rfl) ?_
        refine lv_lload hx hb dX1_floorOfRoot_63 (lv_at hl 4 rfl) ?_
        refine lv_lload_n hx hb dX1_floorOfRoot_65 rfl (lv_at hl 3 rfl) ?_
        refine lv_lsub hx hb dX1_floorOfRoot_66 ?_
        refine lv_ldc2 (v := (2 : Int64)) hx hb hown (hts _ mw_579) dX1_floorOfRoot_67 ?_
        refine lv_ldiv hx hb dX1_floorOfRoot_70 (by decide) ?_
        refine lv_ladd hx hb dX1_floorOfRoot_71 ?_
        refine lv_topl (fun b2 eb2 => ?_)
        replace h := h b2 eb2
        refine lv_lstore (lv' := [(8, .long b2), (0, .ref (g.1 2006)), (1, .int x1), (2, .int i2), (3, .long l3), (5, .long l5), (7, .int i7)]) hx hb dX1_floorOfRoot_72 hl (by decide) rfl (fun ls hl => ?_)
        refine lv_aload_n hx hb dX1_floorOfRoot_74 rfl (lv_at hl 1 rfl) ?_
        refine lv_lload hx hb dX1_floorOfRoot_75 (lv_at hl 0 rfl) ?_
        refine lv_iload_n hx hb dX1_floorOfRoot_77 rfl (lv_at hl 3 rfl) ?_
        refine m_cVi (TT := cT g) (As := [.long b2, .int i2]) (rest := []) X hl.1 hw hS (kX1_rootsBelow hg h) mw_581 fX1_rootsBelow tC rfl rfl ⟨rfl, rfl, Nat.le_of_ble_eq_true rfl, Nat.le_of_ble_eq_true rfl⟩ rfl rfl (Nat.le_of_ble_eq_true rfl) dX1_floorOfRoot_78 (fun r3 σ4 H locs h hw hS => ?_)
        refine lv_iload_n hx hb dX1_floorOfRoot_81 rfl (lv_at hl 2 rfl) ?_
        refine lv_icmp_gt (tgt := 91) hx hb dX1_floorOfRoot_82 (by decide) (fun hc => ?_) (fun hc => ?_)
        · replace h := h.1 hc
          refine lv_lload hx hb dX1_floorOfRoot_91 (lv_at hl 0 rfl) ?_
          refine lv_lstore (lv' := [(5, .long b2), (8, .long b2), (0, .ref (g.1 2006)), (1, .int x1), (2, .int i2), (3, .long l3), (7, .int i7)]) hx hb dX1_floorOfRoot_93 hl (by decide) rfl (fun ls hl => ?_)
          exact wX1_floorOfRoot_95 hg X hr hN46 i2 l3 b2 i7 _ h H locs ls hw hS (lv_sub hl [2, 3, 4, 5, 0, 6] rfl)
        · replace h := h.2 hc
          refine lv_lload hx hb dX1_floorOfRoot_85 (lv_at hl 0 rfl) ?_
          refine lv_lstore_n (lv' := [(3, .long b2), (8, .long b2), (0, .ref (g.1 2006)), (1, .int x1), (2, .int i2), (5, .long l5), (7, .int i7)]) hx hb dX1_floorOfRoot_87 rfl hl (by decide) rfl (fun ls hl => ?_)
          refine lv_goto (tgt := 95) hx hb dX1_floorOfRoot_88 (by decide) ?_
          exact wX1_floorOfRoot_95 hg X hr hN46 i2 b2 l5 i7 _ h H locs ls hw hS (lv_sub hl [2, 3, 4, 0, 5, 6] rfl)
def wpX1_floorOfRoot_39 (x1 : Int32) (Q : Int64 → CS → Prop) (σ : CS) : Prop :=
  Q (-9223372036854775808 : Int64) σ
set_option maxRecDepth 100000 in
set_option maxHeartbeats 4000000 in
theorem wX1_floorOfRoot_39 {p : Program} {l : Launch} {e : Env} {s : State} {m : MethodId} {args : Array Value} {below : List Frame} {meth : Method} {c : Code} {D : va_G} {A : Nat → Prop} {g : mG} (hg : inj g) {x1 : Int32} (X : cx p m meth c s args cX1_floorOfRoot 10 RX1 D (tyG g)) (hr : meth.sig.returnType = (some .long)) {Q : Int64 → CS → Prop} : ∀ (σ : CS), wpX1_floorOfRoot_39 x1 Q σ → cW p l e rmX1_floorOfRoot s m args below meth c (MQ below (va_Ql Q (fun u t => wd D A (cT g u) t.heap) A) args s 0 0 A) D A (cT g σ) 39 10 [(0, .ref (g.1 2006)), (1, .int x1)] := by
  obtain ⟨hx, hb, hml, hown, hts, hK, hlk⟩ := id X
  intro σ h H locs ls hw hS hl
  unfold wpX1_floorOfRoot_39 at h
  refine lv_ldc2 (v := (-9223372036854775808 : Int64)) hx hb hown (hts _ mw_578) dX1_floorOfRoot_39 ?_
  exact m_lret X hr hw hS h dX1_floorOfRoot_42
def wpX1_floorOfRoot_0 (x1 : Int32) (Q : Int64 → CS → Prop) (σ : CS) : Prop :=
  wpX1_changes (-1 : Int64) (1 : Int32) σ (fun (r5 : Int32) (σ6 : CS) =>
    wpX1_rootsBelow (-2147483647 : Int64) r5 σ6 (fun (r7 : Int32) (σ8 : CS) =>
      (x1 < r7 →
        wpX1_floorOfRoot_39 x1 Q σ8) ∧
      (¬ x1 < r7 →
        wpX1_rootsBelow (2147483648 : Int64) r5 σ8 (fun (r9 : Int32) (σ10 : CS) =>
          (x1 < r9 →
            ∃ n, lq5 (wbX1_floorOfRoot_46 x1 Q) n r5 (-2147483647 : Int64) (2147483648 : Int64) (0 : Int32) σ10) ∧
          (¬ x1 < r9 →
            wpX1_floorOfRoot_39 x1 Q σ10)))))
set_option maxRecDepth 100000 in
set_option maxHeartbeats 4000000 in
theorem wX1_floorOfRoot_0 {p : Program} {l : Launch} {e : Env} {s : State} {m : MethodId} {args : Array Value} {below : List Frame} {meth : Method} {c : Code} {D : va_G} {A : Nat → Prop} {g : mG} (hg : inj g) {x1 : Int32} (X : cx p m meth c s args cX1_floorOfRoot 10 RX1 D (tyG g)) (hr : meth.sig.returnType = (some .long)) {Q : Int64 → CS → Prop} : ∀ (σ : CS), wpX1_floorOfRoot_0 x1 Q σ → cW p l e rmX1_floorOfRoot s m args below meth c (MQ below (va_Ql Q (fun u t => wd D A (cT g u) t.heap) A) args s 0 0 A) D A (cT g σ) 0 10 [(0, .ref (g.1 2006)), (1, .int x1)] := by
  obtain ⟨hx, hb, hml, hown, hts, hK, hlk⟩ := id X
  intro σ h H locs ls hw hS hl
  unfold wpX1_floorOfRoot_0 at h
  refine lv_aload_n hx hb dX1_floorOfRoot_0 rfl (lv_at hl 0 rfl) ?_
  refine lv_ldc2 (v := (-1 : Int64)) hx hb hown (hts _ mw_575) dX1_floorOfRoot_1 ?_
  refine lv_iconst (v := (1 : Int32)) hx hb dX1_floorOfRoot_4 (by decide) ?_
  refine m_cVi (TT := cT g) (As := [.long (-1 : Int64), .int (1 : Int32)]) (rest := []) X hl.1 hw hS (kX1_changes hg h) mw_580 fX1_changes tC rfl rfl ⟨rfl, rfl, Nat.le_of_ble_eq_true rfl, Nat.le_of_ble_eq_true rfl⟩ rfl rfl (Nat.le_of_ble_eq_true rfl) dX1_floorOfRoot_5 (fun r5 σ6 H locs h hw hS => ?_)
  refine lv_istore_n (lv' := [(2, .int r5), (0, .ref (g.1 2006)), (1, .int x1)]) hx hb dX1_floorOfRoot_8 rfl hl (by decide) rfl (fun ls hl => ?_)
  refine lv_ldc2 (v := (-2147483647 : Int64)) hx hb hown (hts _ mw_576) dX1_floorOfRoot_9 ?_
  refine lv_lstore_n (lv' := [(3, .long (-2147483647 : Int64)), (2, .int r5), (0, .ref (g.1 2006)), (1, .int x1)]) hx hb dX1_floorOfRoot_12 rfl hl (by decide) rfl (fun ls hl => ?_)
  refine lv_ldc2 (v := (2147483648 : Int64)) hx hb hown (hts _ mw_577) dX1_floorOfRoot_13 ?_
  refine lv_lstore (lv' := [(5, .long (2147483648 : Int64)), (3, .long (-2147483647 : Int64)), (2, .int r5), (0, .ref (g.1 2006)), (1, .int x1)]) hx hb dX1_floorOfRoot_16 hl (by decide) rfl (fun ls hl => ?_)
  refine lv_aload_n hx hb dX1_floorOfRoot_18 rfl (lv_at hl 3 rfl) ?_
  refine lv_lload_n hx hb dX1_floorOfRoot_19 rfl (lv_at hl 1 rfl) ?_
  refine lv_iload_n hx hb dX1_floorOfRoot_20 rfl (lv_at hl 2 rfl) ?_
  refine m_cVi (TT := cT g) (As := [.long (-2147483647 : Int64), .int r5]) (rest := []) X hl.1 hw hS (kX1_rootsBelow hg h) mw_581 fX1_rootsBelow tC rfl rfl ⟨rfl, rfl, Nat.le_of_ble_eq_true rfl, Nat.le_of_ble_eq_true rfl⟩ rfl rfl (Nat.le_of_ble_eq_true rfl) dX1_floorOfRoot_21 (fun r7 σ8 H locs h hw hS => ?_)
  refine lv_iload_n hx hb dX1_floorOfRoot_24 rfl (lv_at hl 4 rfl) ?_
  refine lv_icmp_gt (tgt := 39) hx hb dX1_floorOfRoot_25 (by decide) (fun hc => ?_) (fun hc => ?_)
  · replace h := h.1 hc
    exact wX1_floorOfRoot_39 hg X hr _ h H locs ls hw hS (lv_sub hl [3, 4] rfl)
  · replace h := h.2 hc
    refine lv_aload_n hx hb dX1_floorOfRoot_28 rfl (lv_at hl 3 rfl) ?_
    refine lv_lload hx hb dX1_floorOfRoot_29 (lv_at hl 0 rfl) ?_
    refine lv_iload_n hx hb dX1_floorOfRoot_31 rfl (lv_at hl 2 rfl) ?_
    refine m_cVi (TT := cT g) (As := [.long (2147483648 : Int64), .int r5]) (rest := []) X hl.1 hw hS (kX1_rootsBelow hg h) mw_581 fX1_rootsBelow tC rfl rfl ⟨rfl, rfl, Nat.le_of_ble_eq_true rfl, Nat.le_of_ble_eq_true rfl⟩ rfl rfl (Nat.le_of_ble_eq_true rfl) dX1_floorOfRoot_32 (fun r9 σ10 H locs h hw hS => ?_)
    refine lv_iload_n hx hb dX1_floorOfRoot_35 rfl (lv_at hl 4 rfl) ?_
    refine lv_icmp_gt (tgt := 43) hx hb dX1_floorOfRoot_36 (by decide) (fun hc => ?_) (fun hc => ?_)
    · replace h := h.1 hc
      refine lv_iconst (v := (0 : Int32)) hx hb dX1_floorOfRoot_43 (by decide) ?_
      refine lv_istore (lv' := [(7, .int (0 : Int32)), (5, .long (2147483648 : Int64)), (3, .long (-2147483647 : Int64)), (2, .int r5), (0, .ref (g.1 2006)), (1, .int x1)]) hx hb dX1_floorOfRoot_44 hl (by decide) rfl (fun ls hl => ?_)
      obtain ⟨n9, h⟩ := h
      exact wX1_floorOfRoot_46 hg X hr n9 r5 (-2147483647 : Int64) (2147483648 : Int64) (0 : Int32) _ h H locs ls hw hS (lv_sub hl [4, 5, 3, 2, 1, 0] rfl)
    · replace h := h.2 hc
      exact wX1_floorOfRoot_39 hg X hr _ h H locs ls hw hS (lv_sub hl [3, 4] rfl)
def wpX1_floorOfRoot (x1 : Int32) (σ : CS) (Q : Int64 → CS → Prop) : Prop := wpX1_floorOfRoot_0 x1 Q σ
theorem kX1_floorOfRoot {l : Launch} {D : va_G} {A : Nat → Prop} {g : mG} (hg : inj g) {x1 : Int32} {σ : CS} {Q : Int64 → CS → Prop} (h : wpX1_floorOfRoot x1 σ Q) : Met l yX1_floorOfRoot (Cond.code yX1_floorOfRoot cX1_floorOfRoot 10 (some .long) :: wsA) rmX1_floorOfRoot (mPc D (tyG g) A (cT g σ) [.ref (g.1 2006), .int x1]) (va_Ql Q (fun u t => wd D A (cT g u) t.heap) A) 0 0 A :=
  m_met (by decide +kernel) (Nat.le_of_ble_eq_true rfl) (fun p e s m below meth c X hr H locs ls hw hS hl => wX1_floorOfRoot_0 hg X hr σ h H locs ls hw hS (lv_sub hl [0, 1] rfl))
theorem fX1_floorOfRoot : vfit yX1_floorOfRoot cX1_floorOfRoot 10 (some .long) 1 := ⟨mw_572, mw_573, mw_18, mw_574, by decide +kernel, by decide +kernel, by decide +kernel⟩
