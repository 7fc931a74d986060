/-! java/util/Arrays.rangeCheck(III)V -/
def rmJ7_rangeCheck_23922 : Room := { frames := 0, cells := 0, slots := 0, locals := 0 }
def wpJ7_rangeCheck_23922_0 (x1 : Int32) (x2 : Int32) (x3 : Int32) (Q : CS → Prop) (σ : CS) : Prop :=
  (x2 ≤ x3 →
    (0 ≤ x2 →
      (x3 ≤ x1 →
        Q σ) ∧
      (¬ x3 ≤ x1 →
        False)) ∧
    (¬ 0 ≤ x2 →
      False)) ∧
  (¬ x2 ≤ x3 →
    False)
set_option maxRecDepth 100000 in
set_option maxHeartbeats 4000000 in
theorem wJ7_rangeCheck_23922_0 {p : Program} {l : Launch} {e : Env} {s : State} {m : MethodId} {args : Array Value} {below : List Frame} {meth : Method} {c : Code} {D : va_G} {A : Nat → Prop} {g : mG} (hg : inj g) {x1 : Int32} {x2 : Int32} {x3 : Int32} (X : cx p m meth c s args cJ7_rangeCheck_23922 3 RJ7 D (tyG g)) (hr : meth.sig.returnType = none) {Q : CS → Prop} : ∀ (σ : CS), wpJ7_rangeCheck_23922_0 x1 x2 x3 Q σ → cW p l e rmJ7_rangeCheck_23922 s m args below meth c (MQ below (va_Qv Q (fun u t => wd D A (cT g u) t.heap) A) args s 0 0 A) D A (cT g σ) 0 3 [(0, .int x1), (1, .int x2), (2, .int x3)] := by
  obtain ⟨hx, hb, hml, hown, hts, hK, hlk⟩ := id X
  intro σ h H locs ls hw hS hl
  unfold wpJ7_rangeCheck_23922_0 at h
  refine lv_iload_n hx hb dJ7_rangeCheck_23922_0 rfl (lv_at hl 1 rfl) ?_
  refine lv_iload_n hx hb dJ7_rangeCheck_23922_1 rfl (lv_at hl 2 rfl) ?_
  refine lv_icmp_le (tgt := 46) hx hb dJ7_rangeCheck_23922_2 (by decide) (fun hc => ?_) (fun hc => ?_)
  · replace h := h.1 hc
    refine lv_iload_n hx hb dJ7_rangeCheck_23922_46 rfl (lv_at hl 1 rfl) ?_
    refine lv_if_ge (tgt := 59) hx hb dJ7_rangeCheck_23922_47 (by decide) (fun hc => ?_) (fun hc => ?_)
    · replace h := h.1 hc
      refine lv_iload_n hx hb dJ7_rangeCheck_23922_59 rfl (lv_at hl 2 rfl) ?_
      refine lv_iload_n hx hb dJ7_rangeCheck_23922_60 rfl (lv_at hl 0 rfl) ?_
      refine lv_icmp_le (tgt := 73) hx hb dJ7_rangeCheck_23922_61 (by decide) (fun hc => ?_) (fun hc => ?_)
      · replace h := h.1 hc
        exact m_vret X hr hw hS h dJ7_rangeCheck_23922_73
      · replace h := h.2 hc
        exact h.elim
    · replace h := h.2 hc
      exact h.elim
  · replace h := h.2 hc
    exact h.elim
def wpJ7_rangeCheck_23922 (x1 : Int32) (x2 : Int32) (x3 : Int32) (σ : CS) (Q : CS → Prop) : Prop := wpJ7_rangeCheck_23922_0 x1 x2 x3 Q σ
theorem kJ7_rangeCheck_23922 {l : Launch} {D : va_G} {A : Nat → Prop} {g : mG} (hg : inj g) {x1 : Int32} {x2 : Int32} {x3 : Int32} {σ : CS} {Q : CS → Prop} (h : wpJ7_rangeCheck_23922 x1 x2 x3 σ Q) : Met l yJ7_rangeCheck_23922 (Cond.code yJ7_rangeCheck_23922 cJ7_rangeCheck_23922 3 none :: wsA) rmJ7_rangeCheck_23922 (mPc D (tyG g) A (cT g σ) [.int x1, .int x2, .int x3]) (va_Qv Q (fun u t => wd D A (cT g u) t.heap) A) 0 0 A :=
  m_met (by decide +kernel) (Nat.le_of_ble_eq_true rfl) (fun p e s m below meth c X hr H locs ls hw hS hl => wJ7_rangeCheck_23922_0 hg X hr σ h H locs ls hw hS (lv_sub hl [0, 1, 2] rfl))
theorem fJ7_rangeCheck_23922 : sfit yJ7_rangeCheck_23922 cJ7_rangeCheck_23922 3 none 3 := ⟨mw_265, mw_262, mw_266, by decide +kernel, by decide +kernel, by decide +kernel⟩
/-! java/util/Arrays.fill([IIII)V -/
def rmJ7_fill_fda19 : Room := { frames := 1, cells := 0, slots := 0, locals := 22 }
def wbJ7_fill_fda19_10 (w1 : Nat) (x2 : Int32) (x3 : Int32) (x4 : Int32) (Q : CS → Prop) (N10 : Int32 → CS → Prop) (i4 : Int32) (σ : CS) : Prop :=
  (x3 ≤ i4 →
    Q σ) ∧
  (¬ x3 ≤ i4 →
    vp_in i4 (capW w1) ∧ (
    ∀ a1 : Int32, a1 = i4 + (1 : Int32) →
    N10 a1 (sFi σ w1 i4 x4)))
set_option maxRecDepth 100000 in
set_option maxHeartbeats 4000000 in
theorem wJ7_fill_fda19_10 {p : Program} {l : Launch} {e : Env} {s : State} {m : MethodId} {args : Array Value} {below : List Frame} {meth : Method} {c : Code} {D : va_G} {A : Nat → Prop} {g : mG} (hg : inj g) {w1 : Nat} {x2 : Int32} {x3 : Int32} {x4 : Int32} (hw1 : okW w1) (X : cx p m meth c s args cJ7_fill_fda19 5 RJ7 D (tyG g)) (hr : meth.sig.returnType = none) {Q : CS → Prop} : ∀ (n : Nat) (i4 : Int32) (σ : CS), lq2 (wbJ7_fill_fda19_10 w1 x2 x3 x4 Q) n i4 σ → cW p l e rmJ7_fill_fda19 s m args below meth c (MQ below (va_Qv Q (fun u t => wd D A (cT g u) t.heap) A) args s 0 0 A) D A (cT g σ) 10 5 [(0, .ref (g.1 (4 * w1 + 1))), (1, .int x2), (2, .int x3), (3, .int x4), (4, .int i4)] := by
  obtain ⟨hx, hb, hml, hown, hts, hK, hlk⟩ := id X
  intro n
  induction n with
  | zero =>
    intro i4 σ h
    exact h.elim
  | succ n hN10 =>
    intro i4 σ h H locs ls hw hS hl
    replace h : wbJ7_fill_fda19_10 w1 x2 x3 x4 Q (lq2 (wbJ7_fill_fda19_10 w1 x2 x3 x4 Q) n) i4 σ := h
    unfold wbJ7_fill_fda19_10 at h
    refine lv_iload hx hb dJ7_fill_fda19_10 (lv_at hl 4 rfl) ?_
    refine lv_iload_n hx hb dJ7_fill_fda19_12 rfl (lv_at hl 2 rfl) ?_
    refine lv_icmp_ge (tgt := 27) hx hb dJ7_fill_fda19_13 (by decide) (fun hc => ?_) (fun hc => ?_)
    · replace h := h.1 hc
      exact m_vret X hr hw hS h dJ7_fill_fda19_27
    · replace h := h.2 hc
      refine lv_aload_n hx hb dJ7_fill_fda19_16 rfl (lv_at hl 0 rfl) ?_
      refine lv_iload hx hb dJ7_fill_fda19_17 (lv_at hl 4 rfl) ?_
      refine lv_iload_n hx hb dJ7_fill_fda19_19 rfl (lv_at hl 3 rfl) ?_
      obtain ⟨hi, h⟩ := h
      refine m_iast (T' := cT g (sFi σ w1 i4 x4)) X hw hS (tD hw1) 0 rfl hi (uF hg) dJ7_fill_fda19_20 (fun H locs hw hS => ?_)
      obtain ⟨a1, ea1⟩ : ∃ z : Int32, z = i4 + (1 : Int32) := ⟨_, rfl⟩
      replace h := h a1 ea1
      refine lv_iinc (v := a1) (lv' := [(4, .int a1), (0, .ref (g.1 (4 * w1 + 1))), (1, .int x2), (2, .int x3), (3, .int x4)]) hx hb dJ7_fill_fda19_21 hl (k := 4) rfl (by rw [ea1]; rfl) (by decide) rfl (fun ls hl => ?_)
      refine lv_goto (tgt := 10) hx hb dJ7_fill_fda19_24 (by decide) ?_
      exact hN10 a1 _ h H locs ls hw hS (lv_sub hl [1, 2, 3, 4, 0] rfl)
def wpJ7_fill_fda19_0 (w1 : Nat) (x2 : Int32) (x3 : Int32) (x4 : Int32) (Q : CS → Prop) (σ : CS) : Prop :=
  wpJ7_rangeCheck_23922 (Int32.ofNat (capW w1)) x2 x3 σ (fun (σ3 : CS) =>
    ∃ n, lq2 (wbJ7_fill_fda19_10 w1 x2 x3 x4 Q) n x2 σ3)
set_option maxRecDepth 100000 in
set_option maxHeartbeats 4000000 in
theorem wJ7_fill_fda19_0 {p : Program} {l : Launch} {e : Env} {s : State} {m : MethodId} {args : Array Value} {below : List Frame} {meth : Method} {c : Code} {D : va_G} {A : Nat → Prop} {g : mG} (hg : inj g) {w1 : Nat} {x2 : Int32} {x3 : Int32} {x4 : Int32} (hw1 : okW w1) (X : cx p m meth c s args cJ7_fill_fda19 5 RJ7 D (tyG g)) (hr : meth.sig.returnType = none) {Q : CS → Prop} : ∀ (σ : CS), wpJ7_fill_fda19_0 w1 x2 x3 x4 Q σ → cW p l e rmJ7_fill_fda19 s m args below meth c (MQ below (va_Qv Q (fun u t => wd D A (cT g u) t.heap) A) args s 0 0 A) D A (cT g σ) 0 5 [(0, .ref (g.1 (4 * w1 + 1))), (1, .int x2), (2, .int x3), (3, .int x4)] := by
  obtain ⟨hx, hb, hml, hown, hts, hK, hlk⟩ := id X
  intro σ h H locs ls hw hS hl
  unfold wpJ7_fill_fda19_0 at h
  refine lv_aload_n hx hb dJ7_fill_fda19_0 rfl (lv_at hl 0 rfl) ?_
  refine m_alen (v := Int32.ofNat (capW w1)) X hw (tD hw1) 0 rfl rfl dJ7_fill_fda19_1 ?_
  refine lv_iload_n hx hb dJ7_fill_fda19_2 rfl (lv_at hl 1 rfl) ?_
  refine lv_iload_n hx hb dJ7_fill_fda19_3 rfl (lv_at hl 2 rfl) ?_
  refine m_cSv (TT := cT g) (As := [.int (Int32.ofNat (capW w1)), .int x2, .int x3]) (rest := []) X hl.1 hw hS (kJ7_rangeCheck_23922 hg h) mw_264 fJ7_rangeCheck_23922 ⟨rfl, rfl, Nat.le_of_ble_eq_true rfl, Nat.le_of_ble_eq_true rfl⟩ rfl rfl (Nat.le_of_ble_eq_true rfl) dJ7_fill_fda19_4 (fun σ3 H locs h hw hS => ?_)
  refine lv_iload_n hx hb dJ7_fill_fda19_7 rfl (lv_at hl 1 rfl) ?_
  refine lv_istore (lv' := [(4, .int x2), (0, .ref (g.1 (4 * w1 + 1))), (1, .int x2), (2, .int x3), (3, .int x4)]) hx hb dJ7_fill_fda19_8 hl (by decide) rfl (fun ls hl => ?_)
  obtain ⟨n9, h⟩ := h
  exact wJ7_fill_fda19_10 hg hw1 X hr n9 x2 _ h H locs ls hw hS (lv_sub hl [1, 2, 3, 4, 0] rfl)
def wpJ7_fill_fda19 (w1 : Nat) (x2 : Int32) (x3 : Int32) (x4 : Int32) (σ : CS) (Q : CS → Prop) : Prop := wpJ7_fill_fda19_0 w1 x2 x3 x4 Q σ
theorem kJ7_fill_fda19 {l : Launch} {D : va_G} {A : Nat → Prop} {g : mG} (hg : inj g) {w1 : Nat} {x2 : Int32} {x3 : Int32} {x4 : Int32} (hw1 : okW w1) {σ : CS} {Q : CS → Prop} (h : wpJ7_fill_fda19 w1 x2 x3 x4 σ Q) : Met l yJ7_fill_fda19 (Cond.code yJ7_fill_fda19 cJ7_fill_fda19 5 none :: wsA) rmJ7_fill_fda19 (mPc D (tyG g) A (cT g σ) [.ref (g.1 (4 * w1 + 1)), .int x2, .int x3, .int x4]) (va_Qv Q (fun u t => wd D A (cT g u) t.heap) A) 0 0 A :=
  m_met (by decide +kernel) (Nat.le_of_ble_eq_true rfl) (fun p e s m below meth c X hr H locs ls hw hS hl => wJ7_fill_fda19_0 hg hw1 X hr σ h H locs ls hw hS (lv_sub hl [0, 1, 2, 3] rfl))
theorem fJ7_fill_fda19 : sfit yJ7_fill_fda19 cJ7_fill_fda19 5 none 4 := ⟨mw_261, mw_262, mw_263, by decide +kernel, by decide +kernel, by decide +kernel⟩
/-! java/lang/Integer.numberOfLeadingZeros(I)I -/
def rmJ6_numberOfLeadingZeros_0f7a4 : Room := { frames := 0, cells := 0, slots := 0, locals := 0 }
def wpJ6_numberOfLeadingZeros_0f7a4_73 (Q : Int32 → CS → Prop) (i0 : Int32) (i1 : Int32) (σ : CS) : Prop :=
  Q (i1 - (jushr i0 (1 : Int32))) σ
set_option maxRecDepth 100000 in
set_option maxHeartbeats 4000000 in
theorem wJ6_numberOfLeadingZeros_0f7a4_73 {p : Program} {l : Launch} {e : Env} {s : State} {m : MethodId} {args : Array Value} {below : List Frame} {meth : Method} {c : Code} {D : va_G} {A : Nat → Prop} {g : mG} (hg : inj g) (X : cx p m meth c s args cJ6_numberOfLeadingZeros_0f7a4 2 RJ6 D (tyG g)) (hr : meth.sig.returnType = (some .int)) {Q : Int32 → CS → Prop} : ∀ (i0 : Int32) (i1 : Int32) (σ : CS), wpJ6_numberOfLeadingZeros_0f7a4_73 Q i0 i1 σ → cW p l e rmJ6_numberOfLeadingZeros_0f7a4 s m args below meth c (MQ below (va_Qi Q (fun u t => wd D A (cT g u) t.heap) A) args s 0 0 A) D A (cT g σ) 73 2 [(0, .int i0), (1, .int i1)] := by
  obtain ⟨hx, hb, hml, hown, hts, hK, hlk⟩ := id X
  intro i0 i1 σ h H locs ls hw hS hl
  unfold wpJ6_numberOfLeadingZeros_0f7a4_73 at h
  refine lv_iload_n hx hb dJ6_numberOfLeadingZeros_0f7a4_73 rfl (lv_at hl 1 rfl) ?_
  refine lv_iload_n hx hb dJ6_numberOfLeadingZeros_0f7a4_74 rfl (lv_at hl 0 rfl) ?_
  refine lv_iconst (v := (1 : Int32)) hx hb dJ6_numberOfLeadingZeros_0f7a4_75 (by decide) ?_
  refine lv_iushr (v := jushr i0 (1 : Int32)) hx hb dJ6_numberOfLeadingZeros_0f7a4_76 rfl ?_
  refine lv_isub hx hb dJ6_numberOfLeadingZeros_0f7a4_77 ?_
  exact m_iret X hr hw hS h dJ6_numberOfLeadingZeros_0f7a4_78
def wpJ6_numberOfLeadingZeros_0f7a4_61 (Q : Int32 → CS → Prop) (i0 : Int32) (i1 : Int32) (σ : CS) : Prop :=
  (i0 < (4 : Int32) →
    wpJ6_numberOfLeadingZeros_0f7a4_73 Q i0 i1 σ) ∧
  (¬ i0 < (4 : Int32) →
    ∀ a1 : Int32, a1 = i1 + (-2 : Int32) →
    ∀ a2 : Int32, a2 = jushr i0 (2 : Int32) →
    wpJ6_numberOfLeadingZeros_0f7a4_73 Q a2 a1 σ)
set_option maxRecDepth 100000 in
set_option maxHeartbeats 4000000 in
theorem wJ6_numberOfLeadingZeros_0f7a4_61 {p : Program} {l : Launch} {e : Env} {s : State} {m : MethodId} {args : Array Value} {below : List Frame} {meth : Method} {c : Code} {D : va_G} {A : Nat → Prop} {g : mG} (hg : inj g) (X : cx p m meth c s args cJ6_numberOfLeadingZeros_0f7a4 2 RJ6 D (tyG g)) (hr : meth.sig.returnType = (some .int)) {Q : Int32 → CS → Prop} : ∀ (i0 : Int32) (i1 : Int32) (σ : CS), wpJ6_numberOfLeadingZeros_0f7a4_61 Q i0 i1 σ → cW p l e rmJ6_numberOfLeadingZeros_0f7a4 s m args below meth c (MQ below (va_Qi Q (fun u t => wd D A (cT g u) t.heap) A) args s 0 0 A) D A (cT g σ) 61 2 [(0, .int i0), (1, .int i1)] := by
  obtain ⟨hx, hb, hml, hown, hts, hK, hlk⟩ := id X
  intro i0 i1 σ h H locs ls hw hS hl
  unfold wpJ6_numberOfLeadingZeros_0f7a4_61 at h
  refine lv_iload_n hx hb dJ6_numberOfLeadingZeros_0f7a4_61 rfl (lv_at hl 0 rfl) ?_
  refine lv_iconst (v := (4 : Int32)) hx hb dJ6_numberOfLeadingZeros_0f7a4_62 (by decide) ?_
  refine lv_icmp_lt (tgt := 73) hx hb dJ6_numberOfLeadingZeros_0f7a4_63 (by decide) (fun hc => ?_) (fun hc => ?_)
  · replace h := h.1 hc
    exact wJ6_numberOfLeadingZeros_0f7a4_73 hg X hr i0 i1 _ h H locs ls hw hS (lv_sub hl [0, 1] rfl)
  · replace h := h.2 hc
    obtain ⟨a1, ea1⟩ : ∃ z : Int32, z = i1 + (-2 : Int32) := ⟨_, rfl⟩
    replace h := h a1 ea1
    refine lv_iinc (v := a1) (lv' := [(1, .int a1), (0, .int i0)]) hx hb dJ6_numberOfLeadingZeros_0f7a4_66 hl (k := 1) rfl (by rw [ea1]; rfl) (by decide) rfl (fun ls hl => ?_)
    refine lv_iload_n hx hb dJ6_numberOfLeadingZeros_0f7a4_69 rfl (lv_at hl 1 rfl) ?_
    refine lv_iconst (v := (2 : Int32)) hx hb dJ6_numberOfLeadingZeros_0f7a4_70 (by decide) ?_
    refine lv_iushr (v := jushr i0 (2 : Int32)) hx hb dJ6_numberOfLeadingZeros_0f7a4_71 rfl ?_
    refine lv_topi (fun a2 ea2 => ?_)
    replace h := h a2 ea2
    refine lv_istore_n (lv' := [(0, .int a2), (1, .int a1)]) hx hb dJ6_numberOfLeadingZeros_0f7a4_72 rfl hl (by decide) rfl (fun ls hl => ?_)
    exact wJ6_numberOfLeadingZeros_0f7a4_73 hg X hr a2 a1 _ h H locs ls hw hS (lv_sub hl [0, 1] rfl)
def wpJ6_numberOfLeadingZeros_0f7a4_48 (Q : Int32 → CS → Prop) (i0 : Int32) (i1 : Int32) (σ : CS) : Prop :=
  (i0 < (16 : Int32) →
    wpJ6_numberOfLeadingZeros_0f7a4_61 Q i0 i1 σ) ∧
  (¬ i0 < (16 : Int32) →
    ∀ a3 : Int32, a3 = i1 + (-4 : Int32) →
    ∀ a4 : Int32, a4 = jushr i0 (4 : Int32) →
    wpJ6_numberOfLeadingZeros_0f7a4_61 Q a4 a3 σ)
set_option maxRecDepth 100000 in
set_option maxHeartbeats 4000000 in
theorem wJ6_numberOfLeadingZeros_0f7a4_48 {p : Program} {l : Launch} {e : Env} {s : State} {m : MethodId} {args : Array Value} {below : List Frame} {meth : Method} {c : Code} {D : va_G} {A : Nat → Prop} {g : mG} (hg : inj g) (X : cx p m meth c s args cJ6_numberOfLeadingZeros_0f7a4 2 RJ6 D (tyG g)) (hr : meth.sig.returnType = (some .int)) {Q : Int32 → CS → Prop} : ∀ (i0 : Int32) (i1 : Int32) (σ : CS), wpJ6_numberOfLeadingZeros_0f7a4_48 Q i0 i1 σ → cW p l e rmJ6_numberOfLeadingZeros_0f7a4 s m args below meth c (MQ below (va_Qi Q (fun u t => wd D A (cT g u) t.heap) A) args s 0 0 A) D A (cT g σ) 48 2 [(0, .int i0), (1, .int i1)] := by
  obtain ⟨hx, hb, hml, hown, hts, hK, hlk⟩ := id X
  intro i0 i1 σ h H locs ls hw hS hl
  unfold wpJ6_numberOfLeadingZeros_0f7a4_48 at h
  refine lv_iload_n hx hb dJ6_numberOfLeadingZeros_0f7a4_48 rfl (lv_at hl 0 rfl) ?_
  refine lv_bipush (v := (16 : Int32)) hx hb dJ6_numberOfLeadingZeros_0f7a4_49 (by decide) ?_
  refine lv_icmp_lt (tgt := 61) hx hb dJ6_numberOfLeadingZeros_0f7a4_51 (by decide) (fun hc => ?_) (fun hc => ?_)
  · replace h := h.1 hc
    exact wJ6_numberOfLeadingZeros_0f7a4_61 hg X hr i0 i1 _ h H locs ls hw hS (lv_sub hl [0, 1] rfl)
  · replace h := h.2 hc
    obtain ⟨a3, ea3⟩ : ∃ z : Int32, z = i1 + (-4 : Int32) := ⟨_, rfl⟩
    replace h := h a3 ea3
    refine lv_iinc (v := a3) (lv' := [(1, .int a3), (0, .int i0)]) hx hb dJ6_numberOfLeadingZeros_0f7a4_54 hl (k := 1) rfl (by rw [ea3]; rfl) (by decide) rfl (fun ls hl => ?_)
    refine lv_iload_n hx hb dJ6_numberOfLeadingZeros_0f7a4_57 rfl (lv_at hl 1 rfl) ?_
    refine lv_iconst (v := (4 : Int32)) hx hb dJ6_numberOfLeadingZeros_0f7a4_58 (by decide) ?_
    refine lv_iushr (v := jushr i0 (4 : Int32)) hx hb dJ6_numberOfLeadingZeros_0f7a4_59 rfl ?_
    refine lv_topi (fun a4 ea4 => ?_)
    replace h := h a4 ea4
    refine lv_istore_n (lv' := [(0, .int a4), (1, .int a3)]) hx hb dJ6_numberOfLeadingZeros_0f7a4_60 rfl hl (by decide) rfl (fun ls hl => ?_)
    exact wJ6_numberOfLeadingZeros_0f7a4_61 hg X hr a4 a3 _ h H locs ls hw hS (lv_sub hl [0, 1] rfl)
def wpJ6_numberOfLeadingZeros_0f7a4_33 (Q : Int32 → CS → Prop) (i0 : Int32) (i1 : Int32) (σ : CS) : Prop :=
  (i0 < (256 : Int32) →
    wpJ6_numberOfLeadingZeros_0f7a4_48 Q i0 i1 σ) ∧
  (¬ i0 < (256 : Int32) →
    ∀ a5 : Int32, a5 = i1 + (-8 : Int32) →
    ∀ a6 : Int32, a6 = jushr i0 (8 : Int32) →
    wpJ6_numberOfLeadingZeros_0f7a4_48 Q a6 a5 σ)
set_option maxRecDepth 100000 in
set_option maxHeartbeats 4000000 in
theorem wJ6_numberOfLeadingZeros_0f7a4_33 {p : Program} {l : Launch} {e : Env} {s : State} {m : MethodId} {args : Array Value} {below : List Frame} {meth : Method} {c : Code} {D : va_G} {A : Nat → Prop} {g : mG} (hg : inj g) (X : cx p m meth c s args cJ6_numberOfLeadingZeros_0f7a4 2 RJ6 D (tyG g)) (hr : meth.sig.returnType = (some .int)) {Q : Int32 → CS → Prop} : ∀ (i0 : Int32) (i1 : Int32) (σ : CS), wpJ6_numberOfLeadingZeros_0f7a4_33 Q i0 i1 σ → cW p l e rmJ6_numberOfLeadingZeros_0f7a4 s m args below meth c (MQ below (va_Qi Q (fun u t => wd D A (cT g u) t.heap) A) args s 0 0 A) D A (cT g σ) 33 2 [(0, .int i0), (1, .int i1)] := by
  obtain ⟨hx, hb, hml, hown, hts, hK, hlk⟩ := id X
  intro i0 i1 σ h H locs ls hw hS hl
  unfold wpJ6_numberOfLeadingZeros_0f7a4_33 at h
  refine lv_iload_n hx hb dJ6_numberOfLeadingZeros_0f7a4_33 rfl (lv_at hl 0 rfl) ?_
  refine lv_sipush (v := (256 : Int32)) hx hb dJ6_numberOfLeadingZeros_0f7a4_34 (by decide) ?_
  refine lv_icmp_lt (tgt := 48) hx hb dJ6_numberOfLeadingZeros_0f7a4_37 (by decide) (fun hc => ?_) (fun hc => ?_)
  · replace h := h.1 hc
    exact wJ6_numberOfLeadingZeros_0f7a4_48 hg X hr i0 i1 _ h H locs ls hw hS (lv_sub hl [0, 1] rfl)
  · replace h := h.2 hc
    obtain ⟨a5, ea5⟩ : ∃ z : Int32, z = i1 + (-8 : Int32) := ⟨_, rfl⟩
    replace h := h a5 ea5
    refine lv_iinc (v := a5) (lv' := [(1, .int a5), (0, .int i0)]) hx hb dJ6_numberOfLeadingZeros_0f7a4_40 hl (k := 1) rfl (by rw [ea5]; rfl) (by decide) rfl (fun ls hl => ?_)
    refine lv_iload_n hx hb dJ6_numberOfLeadingZeros_0f7a4_43 rfl (lv_at hl 1 rfl) ?_
    refine lv_bipush (v := (8 : Int32)) hx hb dJ6_numberOfLeadingZeros_0f7a4_44 (by decide) ?_
    refine lv_iushr (v := jushr i0 (8 : Int32)) hx hb dJ6_numberOfLeadingZeros_0f7a4_46 rfl ?_
    refine lv_topi (fun a6 ea6 => ?_)
    replace h := h a6 ea6
    refine lv_istore_n (lv' := [(0, .int a6), (1, .int a5)]) hx hb dJ6_numberOfLeadingZeros_0f7a4_47 rfl hl (by decide) rfl (fun ls hl => ?_)
    exact wJ6_numberOfLeadingZeros_0f7a4_48 hg X hr a6 a5 _ h H locs ls hw hS (lv_sub hl [0, 1] rfl)
def wpJ6_numberOfLeadingZeros_0f7a4_0 (Q : Int32 → CS → Prop) (i0 : Int32) (σ : CS) : Prop :=
  (0 < i0 →
    (i0 < (65536 : Int32) →
      wpJ6_numberOfLeadingZeros_0f7a4_33 Q i0 (31 : Int32) σ) ∧
    (¬ i0 < (65536 : Int32) →
      ∀ a7 : Int32, a7 = (31 : Int32) + (-16 : Int32) →
      ∀ a8 : Int32, a8 = jushr i0 (16 : Int32) →
      wpJ6_numberOfLeadingZeros_0f7a4_33 Q a8 a7 σ)) ∧
  (¬ 0 < i0 →
    (¬ i0 = 0 →
      Q (0 : Int32) σ) ∧
    (i0 = 0 →
      Q (32 : Int32) σ))
set_option maxRecDepth 100000 in
set_option maxHeartbeats 4000000 in
theorem wJ6_numberOfLeadingZeros_0f7a4_0 {p : Program} {l : Launch} {e : Env} {s : State} {m : MethodId} {args : Array Value} {below : List Frame} {meth : Method} {c : Code} {D : va_G} {A : Nat → Prop} {g : mG} (hg : inj g) (X : cx p m meth c s args cJ6_numberOfLeadingZeros_0f7a4 2 RJ6 D (tyG g)) (hr : meth.sig.returnType = (some .int)) {Q : Int32 → CS → Prop} : ∀ (i0 : Int32) (σ : CS), wpJ6_numberOfLeadingZeros_0f7a4_0 Q i0 σ → cW p l e rmJ6_numberOfLeadingZeros_0f7a4 s m args below meth c (MQ below (va_Qi Q (fun u t => wd D A (cT g u) t.heap) A) args s 0 0 A) D A (cT g σ) 0 2 [(0, .int i0)] := by
  obtain ⟨hx, hb, hml, hown, hts, hK, hlk⟩ := id X
  intro i0 σ h H locs ls hw hS hl
  unfold wpJ6_numberOfLeadingZeros_0f7a4_0 at h
  refine lv_iload_n hx hb dJ6_numberOfLeadingZeros_0f7a4_0 rfl (lv_at hl 0 rfl) ?_
  refine lv_if_gt (tgt := 15) hx hb dJ6_numberOfLeadingZeros_0f7a4_1 (by decide) (fun hc => ?_) (fun hc => ?_)
  · replace h := h.1 hc
    refine lv_bipush (v := (31 : Int32)) hx hb dJ6_numberOfLeadingZeros_0f7a4_15 (by decide) ?_
    refine lv_istore_n (lv' := [(1, .int (31 : Int32)), (0, .int i0)]) hx hb dJ6_numberOfLeadingZeros_0f7a4_17 rfl hl (by decide) rfl (fun ls hl => ?_)
    refine lv_iload_n hx hb dJ6_numberOfLeadingZeros_0f7a4_18 rfl (lv_at hl 1 rfl) ?_
    refine lv_ldcw (v := (65536 : Int32)) hx hb hown (hts _ mw_364) dJ6_numberOfLeadingZeros_0f7a4_19 ?_
    refine lv_icmp_lt (tgt := 33) hx hb dJ6_numberOfLeadingZeros_0f7a4_22 (by decide) (fun hc => ?_) (fun hc => ?_)
    · replace h := h.1 hc
      exact wJ6_numberOfLeadingZeros_0f7a4_33 hg X hr i0 (31 : Int32) _ h H locs ls hw hS (lv_sub hl [1, 0] rfl)
    · replace h := h.2 hc
      obtain ⟨a7, ea7⟩ : ∃ z : Int32, z = (31 : Int32) + (-16 : Int32) := ⟨_, rfl⟩
      replace h := h a7 ea7
      refine lv_iinc (v := a7) (lv' := [(1, .int a7), (0, .int i0)]) hx hb dJ6_numberOfLeadingZeros_0f7a4_25 hl (k := 0) rfl (by rw [ea7]; rfl) (by decide) rfl (fun ls hl => ?_)
      refine lv_iload_n hx hb dJ6_numberOfLeadingZeros_0f7a4_28 rfl (lv_at hl 1 rfl) ?_
      refine lv_bipush (v := (16 : Int32)) hx hb dJ6_numberOfLeadingZeros_0f7a4_29 (by decide) ?_
      refine lv_iushr (v := jushr i0 (16 : Int32)) hx hb dJ6_numberOfLeadingZeros_0f7a4_31 rfl ?_
      refine lv_topi (fun a8 ea8 => ?_)
      replace h := h a8 ea8
      refine lv_istore_n (lv' := [(0, .int a8), (1, .int a7)]) hx hb dJ6_numberOfLeadingZeros_0f7a4_32 rfl hl (by decide) rfl (fun ls hl => ?_)
      exact wJ6_numberOfLeadingZeros_0f7a4_33 hg X hr a8 a7 _ h H locs ls hw hS (lv_sub hl [0, 1] rfl)
  · replace h := h.2 hc
    refine lv_iload_n hx hb dJ6_numberOfLeadingZeros_0f7a4_4 rfl (lv_at hl 0 rfl) ?_
    refine lv_if_ne (tgt := 13) hx hb dJ6_numberOfLeadingZeros_0f7a4_5 (by decide) (fun hc => ?_) (fun hc => ?_)
    · replace h := h.1 hc
      refine lv_iconst (v := (0 : Int32)) hx hb dJ6_numberOfLeadingZeros_0f7a4_13 (by decide) ?_
      exact m_iret X hr hw hS h dJ6_numberOfLeadingZeros_0f7a4_14
    · replace h := h.2 hc
      refine lv_bipush (v := (32 : Int32)) hx hb dJ6_numberOfLeadingZeros_0f7a4_8 (by decide) ?_
      refine lv_goto (tgt := 14) hx hb dJ6_numberOfLeadingZeros_0f7a4_10 (by decide) ?_
      exact m_iret X hr hw hS h dJ6_numberOfLeadingZeros_0f7a4_14
def wpJ6_numberOfLeadingZeros_0f7a4 (x1 : Int32) (σ : CS) (Q : Int32 → CS → Prop) : Prop := wpJ6_numberOfLeadingZeros_0f7a4_0 Q x1 σ
theorem kJ6_numberOfLeadingZeros_0f7a4 {l : Launch} {D : va_G} {A : Nat → Prop} {g : mG} (hg : inj g) {x1 : Int32} {σ : CS} {Q : Int32 → CS → Prop} (h : wpJ6_numberOfLeadingZeros_0f7a4 x1 σ Q) : Met l yJ6_numberOfLeadingZeros_0f7a4 (Cond.code yJ6_numberOfLeadingZeros_0f7a4 cJ6_numberOfLeadingZeros_0f7a4 2 (some .int) :: wsA) rmJ6_numberOfLeadingZeros_0f7a4 (mPc D (tyG g) A (cT g σ) [.int x1]) (va_Qi Q (fun u t => wd D A (cT g u) t.heap) A) 0 0 A :=
  m_met (by decide +kernel) (Nat.le_of_ble_eq_true rfl) (fun p e s m below meth c X hr H locs ls hw hS hl => wJ6_numberOfLeadingZeros_0f7a4_0 hg X hr x1 σ h H locs ls hw hS (lv_sub hl [0] rfl))
theorem fJ6_numberOfLeadingZeros_0f7a4 : sfit yJ6_numberOfLeadingZeros_0f7a4 cJ6_numberOfLeadingZeros_0f7a4 2 (some .int) 1 := ⟨mw_361, mw_362, mw_363, by decide +kernel, by decide +kernel, by decide +kernel⟩
