/-! BigPolys$Chain.begin(LBigPolys$Poly;)V -/
def rmX1_begin : Room := { frames := 3, cells := 0, slots := 0, locals := 83 }
def wpX1_begin_0 (p1 : Nat) (Q : CS → Prop) (σ : CS) : Prop :=
  vp_in (0 : Int32) 10 ∧ (
  wpX2_load (10 + (0 : Int32).toNatClampNeg) p1 σ (fun (σ3 : CS) =>
    vp_in (1 : Int32) 10 ∧ (
    wpX2_slopeOf (10 + (1 : Int32).toNatClampNeg) p1 σ3 (fun (σ6 : CS) =>
      Q σ6))))
set_option maxRecDepth 100000 in
set_option maxHeartbeats 4000000 in
theorem wX1_begin_0 {p : Program} {l : Launch} {e : Env} {s : State} {m : MethodId} {args : Array Value} {below : List Frame} {meth : Method} {c : Code} {D : va_G} {A : Nat → Prop} {g : mG} (hg : inj g) {p1 : Nat} (hp1 : p1 < 20) (X : cx p m meth c s args cX1_begin 2 RX1 D (tyG g)) (hr : meth.sig.returnType = none) {Q : CS → Prop} : ∀ (σ : CS), wpX1_begin_0 p1 Q σ → cW p l e rmX1_begin s m args below meth c (MQ below (va_Qv Q (fun u t => wd D A (cT g u) t.heap) A) args s 0 0 A) D A (cT g σ) 0 2 [(0, .ref (g.1 2006)), (1, .ref (g.1 (4 * p1 + 2)))] := by
  obtain ⟨hx, hb, hml, hown, hts, hK, hlk⟩ := id X
  intro σ h H locs ls hw hS hl
  unfold wpX1_begin_0 at h
  refine lv_aload_n hx hb dX1_begin_0 rfl (lv_at hl 0 rfl) ?_
  refine m_get (v := .ref (g.1 2003)) X hw tC rfl inA_X1 1 (by decide) mw_46 rfl dX1_begin_1 ?_
  refine lv_iconst (v := (0 : Int32)) hx hb dX1_begin_4 (by decide) ?_
  obtain ⟨hi1, h⟩ := h
  refine m_aald X hw tL 3 rfl hi1 dX1_begin_5 ?_
  refine lv_aload_n hx hb dX1_begin_6 rfl (lv_at hl 1 rfl) ?_
  refine m_cVv (TT := cT g) (As := [.ref (g.1 (4 * p1 + 2))]) (rest := []) X hl.1 hw hS (kX2_load hg (okP_l hi1) hp1 h) mw_407 fX2_load (tP (okP_l hi1)) rfl rfl ⟨rfl, rfl, Nat.le_of_ble_eq_true rfl, Nat.le_of_ble_eq_true rfl⟩ rfl rfl (Nat.le_of_ble_eq_true rfl) dX1_begin_7 (fun σ3 H locs h hw hS => ?_)
  refine lv_aload_n hx hb dX1_begin_10 rfl (lv_at hl 0 rfl) ?_
  refine m_get (v := .ref (g.1 2003)) X hw tC rfl inA_X1 1 (by decide) mw_46 rfl dX1_begin_11 ?_
  refine lv_iconst (v := (1 : Int32)) hx hb dX1_begin_14 (by decide) ?_
  obtain ⟨hi4, h⟩ := h
  refine m_aald X hw tL 3 rfl hi4 dX1_begin_15 ?_
  refine lv_aload_n hx hb dX1_begin_16 rfl (lv_at hl 1 rfl) ?_
  refine m_cVv (TT := cT g) (As := [.ref (g.1 (4 * p1 + 2))]) (rest := []) X hl.1 hw hS (kX2_slopeOf hg (okP_l hi4) hp1 h) mw_492 fX2_slopeOf (tP (okP_l hi4)) rfl rfl ⟨rfl, rfl, Nat.le_of_ble_eq_true rfl, Nat.le_of_ble_eq_true rfl⟩ rfl rfl (Nat.le_of_ble_eq_true rfl) dX1_begin_17 (fun σ6 H locs h hw hS => ?_)
  exact m_vret X hr hw hS h dX1_begin_20
def wpX1_begin (p1 : Nat) (σ : CS) (Q : CS → Prop) : Prop := wpX1_begin_0 p1 Q σ
theorem kX1_begin {l : Launch} {D : va_G} {A : Nat → Prop} {g : mG} (hg : inj g) {p1 : Nat} (hp1 : p1 < 20) {σ : CS} {Q : CS → Prop} (h : wpX1_begin p1 σ Q) : Met l yX1_begin (Cond.code yX1_begin cX1_begin 2 none :: wsA) rmX1_begin (mPc D (tyG g) A (cT g σ) [.ref (g.1 2006), .ref (g.1 (4 * p1 + 2))]) (va_Qv Q (fun u t => wd D A (cT g u) t.heap) A) 0 0 A :=
  m_met (by decide +kernel) (Nat.le_of_ble_eq_true rfl) (fun p e s m below meth c X hr H locs ls hw hS hl => wX1_begin_0 hg hp1 X hr σ h H locs ls hw hS (lv_sub hl [0, 1] rfl))
theorem fX1_begin : vfit yX1_begin cX1_begin 2 none 1 := ⟨mw_489, mw_490, mw_18, mw_491, by decide +kernel, by decide +kernel, by decide +kernel⟩
/-! BigPolys$Chain.raise(LBigPolys$Whole;I)V -/
def rmX1_raise : Room := { frames := 3, cells := 0, slots := 0, locals := 77 }
def wbX1_raise_2 (w1 : Nat) (x2 : Int32) (Q : CS → Prop) (N2 : Int32 → CS → Prop) (i3 : Int32) (σ : CS) : Prop :=
  (x2 ≤ i3 →
    Q σ) ∧
  (¬ x2 ≤ i3 →
    wpX3_product 327 326 w1 σ (fun (σ2 : CS) =>
      wpX3_load 326 327 σ2 (fun (σ4 : CS) =>
        ∀ a5 : Int32, a5 = i3 + (1 : Int32) →
        N2 a5 σ4)))
set_option maxRecDepth 100000 in
set_option maxHeartbeats 4000000 in
theorem wX1_raise_2 {p : Program} {l : Launch} {e : Env} {s : State} {m : MethodId} {args : Array Value} {below : List Frame} {meth : Method} {c : Code} {D : va_G} {A : Nat → Prop} {g : mG} (hg : inj g) {w1 : Nat} {x2 : Int32} (hw1 : okW w1) (X : cx p m meth c s args cX1_raise 4 RX1 D (tyG g)) (hr : meth.sig.returnType = none) {Q : CS → Prop} : ∀ (n : Nat) (i3 : Int32) (σ : CS), lq2 (wbX1_raise_2 w1 x2 Q) n i3 σ → cW p l e rmX1_raise s m args below meth c (MQ below (va_Qv Q (fun u t => wd D A (cT g u) t.heap) A) args s 0 0 A) D A (cT g σ) 2 4 [(0, .ref (g.1 2006)), (1, .ref (g.1 (4 * w1))), (2, .int x2), (3, .int i3)] := by
  obtain ⟨hx, hb, hml, hown, hts, hK, hlk⟩ := id X
  intro n
  induction n with
  | zero =>
    intro i3 σ h
    exact h.elim
  | succ n hN2 =>
    intro i3 σ h H locs ls hw hS hl
    replace h : wbX1_raise_2 w1 x2 Q (lq2 (wbX1_raise_2 w1 x2 Q) n) i3 σ := h
    unfold wbX1_raise_2 at h
    refine lv_iload_n hx hb dX1_raise_2 rfl (lv_at hl 3 rfl) ?_
    refine lv_iload_n hx hb dX1_raise_3 rfl (lv_at hl 2 rfl) ?_
    refine lv_icmp_ge (tgt := 36) hx hb dX1_raise_4 (by decide) (fun hc => ?_) (fun hc => ?_)
    · replace h := h.1 hc
      exact m_vret X hr hw hS h dX1_raise_36
    · replace h := h.2 hc
      refine lv_aload_n hx hb dX1_raise_7 rfl (lv_at hl 0 rfl) ?_
      refine m_get (v := .ref (g.1 (4 * 327))) X hw tC rfl inA_X1 5 (by decide) mw_51 rfl dX1_raise_8 ?_
      refine lv_aload_n hx hb dX1_raise_11 rfl (lv_at hl 0 rfl) ?_
      refine m_get (v := .ref (g.1 (4 * 326))) X hw tC rfl inA_X1 4 (by decide) mw_50 rfl dX1_raise_12 ?_
      refine lv_aload_n hx hb dX1_raise_15 rfl (lv_at hl 1 rfl) ?_
      refine m_cVv (TT := cT g) (As := [.ref (g.1 (4 * 326)), .ref (g.1 (4 * w1))]) (rest := []) X hl.1 hw hS (kX3_product hg (okW_b (by decide)) (okW_b (by decide)) hw1 h) mw_441 fX3_product (tW (okW_b (by decide))) rfl rfl ⟨rfl, rfl, Nat.le_of_ble_eq_true rfl, Nat.le_of_ble_eq_true rfl⟩ rfl rfl (Nat.le_of_ble_eq_true rfl) dX1_raise_16 (fun σ2 H locs h hw hS => ?_)
      refine lv_aload_n hx hb dX1_raise_19 rfl (lv_at hl 0 rfl) ?_
      refine m_get (v := .ref (g.1 (4 * 326))) X hw tC rfl inA_X1 4 (by decide) mw_50 rfl dX1_raise_20 ?_
      refine lv_aload_n hx hb dX1_raise_23 rfl (lv_at hl 0 rfl) ?_
      refine m_get (v := .ref (g.1 (4 * 327))) X hw tC rfl inA_X1 5 (by decide) mw_51 rfl dX1_raise_24 ?_
      refine m_cVv (TT := cT g) (As := [.ref (g.1 (4 * 327))]) (rest := []) X hl.1 hw hS (kX3_load hg (okW_b (by decide)) (okW_b (by decide)) h) mw_436 fX3_load (tW (okW_b (by decide))) rfl rfl ⟨rfl, rfl, Nat.le_of_ble_eq_true rfl, Nat.le_of_ble_eq_true rfl⟩ rfl rfl (Nat.le_of_ble_eq_true rfl) dX1_raise_27 (fun σ4 H locs h hw hS => ?_)
      obtain ⟨a5, ea5⟩ : ∃ z : Int32, z = i3 + (1 : Int32) := ⟨_, rfl⟩
      replace h := h a5 ea5
      refine lv_iinc (v := a5) (lv' := [(3, .int a5), (0, .ref (g.1 2006)), (1, .ref (g.1 (4 * w1))), (2, .int x2)]) hx hb dX1_raise_30 hl (k := 3) rfl (by rw [ea5]; rfl) (by decide) rfl (fun ls hl => ?_)
      refine lv_goto (tgt := 2) hx hb dX1_raise_33 (by decide) ?_
      exact hN2 a5 _ h H locs ls hw hS (lv_sub hl [1, 2, 3, 0] rfl)
def wpX1_raise_0 (w1 : Nat) (x2 : Int32) (Q : CS → Prop) (σ : CS) : Prop :=
  ∃ n, lq2 (wbX1_raise_2 w1 x2 Q) n (0 : Int32) σ
set_option maxRecDepth 100000 in
set_option maxHeartbeats 4000000 in
theorem wX1_raise_0 {p : Program} {l : Launch} {e : Env} {s : State} {m : MethodId} {args : Array Value} {below : List Frame} {meth : Method} {c : Code} {D : va_G} {A : Nat → Prop} {g : mG} (hg : inj g) {w1 : Nat} {x2 : Int32} (hw1 : okW w1) (X : cx p m meth c s args cX1_raise 4 RX1 D (tyG g)) (hr : meth.sig.returnType = none) {Q : CS → Prop} : ∀ (σ : CS), wpX1_raise_0 w1 x2 Q σ → cW p l e rmX1_raise s m args below meth c (MQ below (va_Qv Q (fun u t => wd D A (cT g u) t.heap) A) args s 0 0 A) D A (cT g σ) 0 4 [(0, .ref (g.1 2006)), (1, .ref (g.1 (4 * w1))), (2, .int x2)] := by
  obtain ⟨hx, hb, hml, hown, hts, hK, hlk⟩ := id X
  intro σ h H locs ls hw hS hl
  unfold wpX1_raise_0 at h
  refine lv_iconst (v := (0 : Int32)) hx hb dX1_raise_0 (by decide) ?_
  refine lv_istore_n (lv' := [(3, .int (0 : Int32)), (0, .ref (g.1 2006)), (1, .ref (g.1 (4 * w1))), (2, .int x2)]) hx hb dX1_raise_1 rfl hl (by decide) rfl (fun ls hl => ?_)
  obtain ⟨n9, h⟩ := h
  exact wX1_raise_2 hg hw1 X hr n9 (0 : Int32) _ h H locs ls hw hS (lv_sub hl [1, 2, 3, 0] rfl)
def wpX1_raise (w1 : Nat) (x2 : Int32) (σ : CS) (Q : CS → Prop) : Prop := wpX1_raise_0 w1 x2 Q σ
theorem kX1_raise {l : Launch} {D : va_G} {A : Nat → Prop} {g : mG} (hg : inj g) {w1 : Nat} {x2 : Int32} (hw1 : okW w1) {σ : CS} {Q : CS → Prop} (h : wpX1_raise w1 x2 σ Q) : Met l yX1_raise (Cond.code yX1_raise cX1_raise 4 none :: wsA) rmX1_raise (mPc D (tyG g) A (cT g σ) [.ref (g.1 2006), .ref (g.1 (4 * w1)), .int x2]) (va_Qv Q (fun u t => wd D A (cT g u) t.heap) A) 0 0 A :=
  m_met (by decide +kernel) (Nat.le_of_ble_eq_true rfl) (fun p e s m below meth c X hr H locs ls hw hS hl => wX1_raise_0 hg hw1 X hr σ h H locs ls hw hS (lv_sub hl [0, 1, 2] rfl))
theorem fX1_raise : vfit yX1_raise cX1_raise 4 none 2 := ⟨mw_438, mw_439, mw_18, mw_440, by decide +kernel, by decide +kernel, by decide +kernel⟩
/-! BigPolys$Chain.follow(LBigPolys$Poly;I)V -/
def rmX1_follow : Room := { frames := 4, cells := 0, slots := 0, locals := 100 }
def wbX1_follow_65 (p1 : Nat) (x2 : Int32) (Q : CS → Prop) (N65 : Int32 → CS → Prop) (i3 : Int32) (σ : CS) : Prop :=
  (x2 ≤ i3 →
    wpX3_load 325 326 σ (fun (σ2 : CS) =>
      Q σ2)) ∧
  (¬ x2 ≤ i3 →
    wpX3_divide 326 325 327 σ (fun (σ4 : CS) =>
      wpX3_load 326 327 σ4 (fun (σ6 : CS) =>
        ∀ a7 : Int32, a7 = i3 + (1 : Int32) →
        N65 a7 σ6)))
set_option maxRecDepth 100000 in
set_option maxHeartbeats 4000000 in
theorem wX1_follow_65 {p : Program} {l : Launch} {e : Env} {s : State} {m : MethodId} {args : Array Value} {below : List Frame} {meth : Method} {c : Code} {D : va_G} {A : Nat → Prop} {g : mG} (hg : inj g) {p1 : Nat} {x2 : Int32} (hp1 : p1 < 20) (X : cx p m meth c s args cX1_follow 4 RX1 D (tyG g)) (hr : meth.sig.returnType = none) {Q : CS → Prop} : ∀ (n : Nat) (i3 : Int32) (σ : CS), lq2 (wbX1_follow_65 p1 x2 Q) n i3 σ → cW p l e rmX1_follow s m args below meth c (MQ below (va_Qv Q (fun u t => wd D A (cT g u) t.heap) A) args s 0 0 A) D A (cT g σ) 65 4 [(0, .ref (g.1 2006)), (1, .ref (g.1 (4 * p1 + 2))), (2, .int x2), (3, .int i3)] := by
  obtain ⟨hx, hb, hml, hown, hts, hK, hlk⟩ := id X
  intro n
  induction n with
  | zero =>
    intro i3 σ h
    exact h.elim
  | succ n hN65 =>
    intro i3 σ h H locs ls hw hS hl
    replace h : wbX1_follow_65 p1 x2 Q (lq2 (wbX1_follow_65 p1 x2 Q) n) i3 σ := h
    unfold wbX1_follow_65 at h
    refine lv_iload_n hx hb dX1_follow_65 rfl (lv_at hl 3 rfl) ?_
    refine lv_iload_n hx hb dX1_follow_66 rfl (lv_at hl 2 rfl) ?_
    refine lv_icmp_ge (tgt := 102) hx hb dX1_follow_67 (by decide) (fun hc => ?_) (fun hc => ?_)
    · replace h := h.1 hc
      refine lv_aload_n hx hb dX1_follow_102 rfl (lv_at hl 0 rfl) ?_
      refine m_get (v := .ref (g.1 (4 * 325))) X hw tC rfl inA_X1 3 (by decide) mw_49 rfl dX1_follow_103 ?_
      refine lv_aload_n hx hb dX1_follow_106 rfl (lv_at hl 0 rfl) ?_
      refine m_get (v := .ref (g.1 (4 * 326))) X hw tC rfl inA_X1 4 (by decide) mw_50 rfl dX1_follow_107 ?_
      refine m_cVv (TT := cT g) (As := [.ref (g.1 (4 * 326))]) (rest := []) X hl.1 hw hS (kX3_load hg (okW_b (by decide)) (okW_b (by decide)) h) mw_436 fX3_load (tW (okW_b (by decide))) rfl rfl ⟨rfl, rfl, Nat.le_of_ble_eq_true rfl, Nat.le_of_ble_eq_true rfl⟩ rfl rfl (Nat.le_of_ble_eq_true rfl) dX1_follow_110 (fun σ2 H locs h hw hS => ?_)
      exact m_vret X hr hw hS h dX1_follow_113
    · replace h := h.2 hc
      refine lv_aload_n hx hb dX1_follow_70 rfl (lv_at hl 0 rfl) ?_
      refine m_get (v := .ref (g.1 (4 * 326))) X hw tC rfl inA_X1 4 (by decide) mw_50 rfl dX1_follow_71 ?_
      refine lv_aload_n hx hb dX1_follow_74 rfl (lv_at hl 0 rfl) ?_
      refine m_get (v := .ref (g.1 (4 * 325))) X hw tC rfl inA_X1 3 (by decide) mw_49 rfl dX1_follow_75 ?_
      refine lv_aload_n hx hb dX1_follow_78 rfl (lv_at hl 0 rfl) ?_
      refine m_get (v := .ref (g.1 (4 * 327))) X hw tC rfl inA_X1 5 (by decide) mw_51 rfl dX1_follow_79 ?_
      refine m_cVv (TT := cT g) (As := [.ref (g.1 (4 * 325)), .ref (g.1 (4 * 327))]) (rest := []) X hl.1 hw hS (kX3_divide hg (okW_b (by decide)) (okW_b (by decide)) (okW_b (by decide)) h) mw_449 fX3_divide (tW (okW_b (by decide))) rfl rfl ⟨rfl, rfl, Nat.le_of_ble_eq_true rfl, Nat.le_of_ble_eq_true rfl⟩ rfl rfl (Nat.le_of_ble_eq_true rfl) dX1_follow_82 (fun σ4 H locs h hw hS => ?_)
      refine lv_aload_n hx hb dX1_follow_85 rfl (lv_at hl 0 rfl) ?_
      refine m_get (v := .ref (g.1 (4 * 326))) X hw tC rfl inA_X1 4 (by decide) mw_50 rfl dX1_follow_86 ?_
      refine lv_aload_n hx hb dX1_follow_89 rfl (lv_at hl 0 rfl) ?_
      refine m_get (v := .ref (g.1 (4 * 327))) X hw tC rfl inA_X1 5 (by decide) mw_51 rfl dX1_follow_90 ?_
      refine m_cVv (TT := cT g) (As := [.ref (g.1 (4 * 327))]) (rest := []) X hl.1 hw hS (kX3_load hg (okW_b (by decide)) (okW_b (by decide)) h) mw_436 fX3_load (tW (okW_b (by decide))) rfl rfl ⟨rfl, rfl, Nat.le_of_ble_eq_true rfl, Nat.le_of_ble_eq_true rfl⟩ rfl rfl (Nat.le_of_ble_eq_true rfl) dX1_follow_93 (fun σ6 H locs h hw hS => ?_)
      obtain ⟨a7, ea7⟩ : ∃ z : Int32, z = i3 + (1 : Int32) := ⟨_, rfl⟩
      replace h := h a7 ea7
      refine lv_iinc (v := a7) (lv' := [(3, .int a7), (0, .ref (g.1 2006)), (1, .ref (g.1 (4 * p1 + 2))), (2, .int x2)]) hx hb dX1_follow_96 hl (k := 3) rfl (by rw [ea7]; rfl) (by decide) rfl (fun ls hl => ?_)
      refine lv_goto (tgt := 65) hx hb dX1_follow_99 (by decide) ?_
      exact hN65 a7 _ h H locs ls hw hS (lv_sub hl [1, 2, 3, 0] rfl)
def wpX1_follow_41 (p1 : Nat) (x2 : Int32) (Q : CS → Prop) (σ : CS) : Prop :=
  ((1 : Int32) ≤ x2 →
    wpX3_setOne 326 σ (fun (σ9 : CS) =>
      wpX1_raise 324 x2 σ9 (fun (σ11 : CS) =>
        ∃ n, lq2 (wbX1_follow_65 p1 x2 Q) n (1 : Int32) σ11))) ∧
  (¬ (1 : Int32) ≤ x2 →
    Q σ)
set_option maxRecDepth 100000 in
set_option maxHeartbeats 4000000 in
theorem wX1_follow_41 {p : Program} {l : Launch} {e : Env} {s : State} {m : MethodId} {args : Array Value} {below : List Frame} {meth : Method} {c : Code} {D : va_G} {A : Nat → Prop} {g : mG} (hg : inj g) {p1 : Nat} {x2 : Int32} (hp1 : p1 < 20) (X : cx p m meth c s args cX1_follow 4 RX1 D (tyG g)) (hr : meth.sig.returnType = none) {Q : CS → Prop} : ∀ (σ : CS), wpX1_follow_41 p1 x2 Q σ → cW p l e rmX1_follow s m args below meth c (MQ below (va_Qv Q (fun u t => wd D A (cT g u) t.heap) A) args s 0 0 A) D A (cT g σ) 41 4 [(0, .ref (g.1 2006)), (1, .ref (g.1 (4 * p1 + 2))), (2, .int x2)] := by
  obtain ⟨hx, hb, hml, hown, hts, hK, hlk⟩ := id X
  intro σ h H locs ls hw hS hl
  unfold wpX1_follow_41 at h
  refine lv_iload_n hx hb dX1_follow_41 rfl (lv_at hl 2 rfl) ?_
  refine lv_iconst (v := (1 : Int32)) hx hb dX1_follow_42 (by decide) ?_
  refine lv_icmp_ge (tgt := 47) hx hb dX1_follow_43 (by decide) (fun hc => ?_) (fun hc => ?_)
  · replace h := h.1 hc
    refine lv_aload_n hx hb dX1_follow_47 rfl (lv_at hl 0 rfl) ?_
    refine m_get (v := .ref (g.1 (4 * 326))) X hw tC rfl inA_X1 4 (by decide) mw_50 rfl dX1_follow_48 ?_
    refine m_cVv (TT := cT g) (As := []) (rest := []) X hl.1 hw hS (kX3_setOne hg (okW_b (by decide)) h) mw_430 fX3_setOne (tW (okW_b (by decide))) rfl rfl ⟨rfl, rfl, Nat.le_of_ble_eq_true rfl, Nat.le_of_ble_eq_true rfl⟩ rfl rfl (Nat.le_of_ble_eq_true rfl) dX1_follow_51 (fun σ9 H locs h hw hS => ?_)
    refine lv_aload_n hx hb dX1_follow_54 rfl (lv_at hl 0 rfl) ?_
    refine lv_aload_n hx hb dX1_follow_55 rfl (lv_at hl 0 rfl) ?_
    refine m_get (v := .ref (g.1 (4 * 324))) X hw tC rfl inA_X1 2 (by decide) mw_48 rfl dX1_follow_56 ?_
    refine lv_iload_n hx hb dX1_follow_59 rfl (lv_at hl 2 rfl) ?_
    refine m_cVv (TT := cT g) (As := [.ref (g.1 (4 * 324)), .int x2]) (rest := []) X hl.1 hw hS (kX1_raise hg (okW_b (by decide)) h) mw_437 fX1_raise tC rfl rfl ⟨rfl, rfl, Nat.le_of_ble_eq_true rfl, Nat.le_of_ble_eq_true rfl⟩ rfl rfl (Nat.le_of_ble_eq_true rfl) dX1_follow_60 (fun σ11 H locs h hw hS => ?_)
    refine lv_iconst (v := (1 : Int32)) hx hb dX1_follow_63 (by decide) ?_
    refine lv_istore_n (lv' := [(3, .int (1 : Int32)), (0, .ref (g.1 2006)), (1, .ref (g.1 (4 * p1 + 2))), (2, .int x2)]) hx hb dX1_follow_64 rfl hl (by decide) rfl (fun ls hl => ?_)
    obtain ⟨n9, h⟩ := h
    exact wX1_follow_65 hg hp1 X hr n9 (1 : Int32) _ h H locs ls hw hS (lv_sub hl [1, 2, 3, 0] rfl)
  · replace h := h.2 hc
    exact m_vret X hr hw hS h dX1_follow_46
def wpX1_follow_0 (p1 : Nat) (x2 : Int32) (Q : CS → Prop) (σ : CS) : Prop :=
  (0 ≤ (cD σ p1) →
    vp_in (cD σ p1) (tlen p1) ∧ (
    wpX3_load 324 (16 * p1 + (cD σ p1).toNatClampNeg) σ (fun (σ14 : CS) =>
      (0 ≤ (cG σ14 324) →
        wpX1_follow_41 p1 x2 Q σ14) ∧
      (¬ 0 ≤ (cG σ14 324) →
        wpX3_negate 324 σ14 (fun (σ16 : CS) =>
          wpX1_follow_41 p1 x2 Q σ16))))) ∧
  (¬ 0 ≤ (cD σ p1) →
    Q σ)
set_option maxRecDepth 100000 in
set_option maxHeartbeats 4000000 in
theorem wX1_follow_0 {p : Program} {l : Launch} {e : Env} {s : State} {m : MethodId} {args : Array Value} {below : List Frame} {meth : Method} {c : Code} {D : va_G} {A : Nat → Prop} {g : mG} (hg : inj g) {p1 : Nat} {x2 : Int32} (hp1 : p1 < 20) (X : cx p m meth c s args cX1_follow 4 RX1 D (tyG g)) (hr : meth.sig.returnType = none) {Q : CS → Prop} : ∀ (σ : CS), wpX1_follow_0 p1 x2 Q σ → cW p l e rmX1_follow s m args below meth c (MQ below (va_Qv Q (fun u t => wd D A (cT g u) t.heap) A) args s 0 0 A) D A (cT g σ) 0 4 [(0, .ref (g.1 2006)), (1, .ref (g.1 (4 * p1 + 2))), (2, .int x2)] := by
  obtain ⟨hx, hb, hml, hown, hts, hK, hlk⟩ := id X
  intro σ h H locs ls hw hS hl
  unfold wpX1_follow_0 at h
  refine lv_aload_n hx hb dX1_follow_0 rfl (lv_at hl 1 rfl) ?_
  refine m_getN (v := .int (cD σ p1)) X hw (tP hp1) rfl inA_X2 1 (by decide) (List.mem_append_left _ (List.mem_map.mpr ⟨_, List.mem_of_getElem? (i := 13) rfl, rfl⟩)) rfl dX1_follow_1 ?_
  refine lv_if_ge (tgt := 8) hx hb dX1_follow_4 (by decide) (fun hc => ?_) (fun hc => ?_)
  · replace h := h.1 hc
    refine lv_aload_n hx hb dX1_follow_8 rfl (lv_at hl 0 rfl) ?_
    refine m_get (v := .ref (g.1 (4 * 324))) X hw tC rfl inA_X1 2 (by decide) mw_48 rfl dX1_follow_9 ?_
    refine lv_aload_n hx hb dX1_follow_12 rfl (lv_at hl 1 rfl) ?_
    refine m_getN (v := .ref (g.1 (4 * p1 + 3))) X hw (tP hp1) rfl inA_X2 0 (by decide) (List.mem_append_left _ (List.mem_map.mpr ⟨_, List.mem_of_getElem? (i := 11) rfl, rfl⟩)) rfl dX1_follow_13 ?_
    refine lv_aload_n hx hb dX1_follow_16 rfl (lv_at hl 1 rfl) ?_
    refine m_getN (v := .int (cD σ p1)) X hw (tP hp1) rfl inA_X2 1 (by decide) (List.mem_append_left _ (List.mem_map.mpr ⟨_, List.mem_of_getElem? (i := 13) rfl, rfl⟩)) rfl dX1_follow_17 ?_
    obtain ⟨hi12, h⟩ := h
    refine m_aald X hw (tT hp1) 2 rfl hi12 dX1_follow_20 ?_
    refine m_cVv (TT := cT g) (As := [.ref (g.1 (4 * (16 * p1 + (cD σ p1).toNatClampNeg)))]) (rest := []) X hl.1 hw hS (kX3_load hg (okW_b (by decide)) (okW_t hp1 hi12) h) mw_436 fX3_load (tW (okW_b (by decide))) rfl rfl ⟨rfl, rfl, Nat.le_of_ble_eq_true rfl, Nat.le_of_ble_eq_true rfl⟩ rfl rfl (Nat.le_of_ble_eq_true rfl) dX1_follow_21 (fun σ14 H locs h hw hS => ?_)
    refine lv_aload_n hx hb dX1_follow_24 rfl (lv_at hl 0 rfl) ?_
    refine m_get (v := .ref (g.1 (4 * 324))) X hw tC rfl inA_X1 2 (by decide) mw_48 rfl dX1_follow_25 ?_
    refine m_getN (v := .int (cG σ14 324)) X hw (tW (okW_b (by decide))) rfl inA_X3 2 (by decide) (List.mem_append_left _ (List.mem_map.mpr ⟨_, List.mem_of_getElem? (i := 12) rfl, rfl⟩)) rfl dX1_follow_28 ?_
    refine lv_if_ge (tgt := 41) hx hb dX1_follow_31 (by decide) (fun hc => ?_) (fun hc => ?_)
    · replace h := h.1 hc
      exact wX1_follow_41 hg hp1 X hr _ h H locs ls hw hS (lv_sub hl [0, 1, 2] rfl)
    · replace h := h.2 hc
      refine lv_aload_n hx hb dX1_follow_34 rfl (lv_at hl 0 rfl) ?_
      refine m_get (v := .ref (g.1 (4 * 324))) X hw tC rfl inA_X1 2 (by decide) mw_48 rfl dX1_follow_35 ?_
      refine m_cVv (TT := cT g) (As := []) (rest := []) X hl.1 hw hS (kX3_negate hg (okW_b (by decide)) h) mw_448 fX3_negate (tW (okW_b (by decide))) rfl rfl ⟨rfl, rfl, Nat.le_of_ble_eq_true rfl, Nat.le_of_ble_eq_true rfl⟩ rfl rfl (Nat.le_of_ble_eq_true rfl) dX1_follow_38 (fun σ16 H locs h hw hS => ?_)
      exact wX1_follow_41 hg hp1 X hr _ h H locs ls hw hS (lv_sub hl [0, 1, 2] rfl)
  · replace h := h.2 hc
    exact m_vret X hr hw hS h dX1_follow_7
def wpX1_follow (p1 : Nat) (x2 : Int32) (σ : CS) (Q : CS → Prop) : Prop := wpX1_follow_0 p1 x2 Q σ
theorem kX1_follow {l : Launch} {D : va_G} {A : Nat → Prop} {g : mG} (hg : inj g) {p1 : Nat} {x2 : Int32} (hp1 : p1 < 20) {σ : CS} {Q : CS → Prop} (h : wpX1_follow p1 x2 σ Q) : Met l yX1_follow (Cond.code yX1_follow cX1_follow 4 none :: wsA) rmX1_follow (mPc D (tyG g) A (cT g σ) [.ref (g.1 2006), .ref (g.1 (4 * p1 + 2)), .int x2]) (va_Qv Q (fun u t => wd D A (cT g u) t.heap) A) 0 0 A :=
  m_met (by decide +kernel) (Nat.le_of_ble_eq_true rfl) (fun p e s m below meth c X hr H locs ls hw hS hl => wX1_follow_0 hg hp1 X hr σ h H locs ls hw hS (lv_sub hl [0, 1, 2] rfl))
theorem fX1_follow : vfit yX1_follow cX1_follow 4 none 2 := ⟨mw_445, mw_446, mw_18, mw_447, by decide +kernel, by decide +kernel, by decide +kernel⟩
/-! BigPolys$Chain.build()V -/
def rmX1_build : Room := { frames := 5, cells := 0, slots := 0, locals := 123 }
def wbX1_build_19 (Q : CS → Prop) (N19 : CS → Prop) (σ : CS) : Prop :=
  ((10 : Int32) ≤ ((cK σ 0) + (1 : Int32)) →
    Q σ) ∧
  (¬ (10 : Int32) ≤ ((cK σ 0) + (1 : Int32)) →
    vp_in (cK σ 0) 10 ∧ (
    ((cD σ (10 + (cK σ 0).toNatClampNeg)) ≤ 0 →
      Q σ) ∧
    (¬ (cD σ (10 + (cK σ 0).toNatClampNeg)) ≤ 0 →
      vp_in (cK σ 0) 10 ∧ (
      vp_in ((cK σ 0) - (1 : Int32)) 10 ∧ (
      ∀ a4 : Int32, a4 = (cD σ (10 + ((cK σ 0) - (1 : Int32)).toNatClampNeg)) - (cD σ (10 + (cK σ 0).toNatClampNeg)) →
      vp_in ((cK σ 0) - (1 : Int32)) 10 ∧ (
      wpX2_load 8 (10 + ((cK σ 0) - (1 : Int32)).toNatClampNeg) σ (fun (σ7 : CS) =>
        wpX0_reduce (10 + (cK σ 0).toNatClampNeg) σ7 (fun (σ9 : CS) =>
          (0 ≤ (cD σ9 8) →
            wpX3_load 326 324 σ9 (fun (σ11 : CS) =>
              wpX1_raise 325 a4 σ11 (fun (σ13 : CS) =>
                wpX0_divideAll 8 326 σ13 (fun (σ15 : CS) =>
                  wpX2_negate 8 σ15 (fun (σ17 : CS) =>
                    vp_in ((cK σ17 0) + (1 : Int32)) 10 ∧ (
                    wpX2_load (10 + ((cK σ17 0) + (1 : Int32)).toNatClampNeg) 8 σ17 (fun (σ20 : CS) =>
                      wpX1_follow (10 + (cK σ 0).toNatClampNeg) a4 σ20 (fun (σ22 : CS) =>
                        N19 (sK σ22 0 ((cK σ22 0) + (1 : Int32))))))))))) ∧
          (¬ 0 ≤ (cD σ9 8) →
            Q σ9)))))))))
set_option maxRecDepth 100000 in
set_option maxHeartbeats 4000000 in
theorem wX1_build_19 {p : Program} {l : Launch} {e : Env} {s : State} {m : MethodId} {args : Array Value} {below : List Frame} {meth : Method} {c : Code} {D : va_G} {A : Nat → Prop} {g : mG} (hg : inj g) (X : cx p m meth c s args cX1_build 3 RX1 D (tyG g)) (hr : meth.sig.returnType = none) {Q : CS → Prop} : ∀ (n : Nat) (σ : CS), lq1 (wbX1_build_19 Q) n σ → cW p l e rmX1_build s m args below meth c (MQ below (va_Qv Q (fun u t => wd D A (cT g u) t.heap) A) args s 0 0 A) D A (cT g σ) 19 3 [(0, .ref (g.1 2006))] := by
  obtain ⟨hx, hb, hml, hown, hts, hK, hlk⟩ := id X
  intro n
  induction n with
  | zero =>
    intro σ h
    exact h.elim
  | succ n hN19 =>
    intro σ h H locs ls hw hS hl
    replace h : wbX1_build_19 Q (lq1 (wbX1_build_19 Q) n) σ := h
    unfold wbX1_build_19 at h
    refine lv_aload_n hx hb dX1_build_19 rfl (lv_at hl 0 rfl) ?_
    refine m_get (v := .int (cK σ 0)) X hw tC rfl inA_X1 6 (by decide) mw_429 rfl dX1_build_20 ?_
    refine lv_iconst (v := (1 : Int32)) hx hb dX1_build_23 (by decide) ?_
    refine lv_iadd hx hb dX1_build_24 ?_
    refine lv_bipush (v := (10 : Int32)) hx hb dX1_build_25 (by decide) ?_
    refine lv_icmp_ge (tgt := 206) hx hb dX1_build_27 (by decide) (fun hc => ?_) (fun hc => ?_)
    · replace h := h.1 hc
      exact m_vret X hr hw hS h dX1_build_206
    · replace h := h.2 hc
      refine lv_aload_n hx hb dX1_build_30 rfl (lv_at hl 0 rfl) ?_
      refine m_get (v := .ref (g.1 2003)) X hw tC rfl inA_X1 1 (by decide) mw_46 rfl dX1_build_31 ?_
      refine lv_aload_n hx hb dX1_build_34 rfl (lv_at hl 0 rfl) ?_
      refine m_get (v := .int (cK σ 0)) X hw tC rfl inA_X1 6 (by decide) mw_429 rfl dX1_build_35 ?_
      obtain ⟨hi1, h⟩ := h
      refine m_aald X hw tL 3 rfl hi1 dX1_build_38 ?_
      refine m_getN (v := .int (cD σ (10 + (cK σ 0).toNatClampNeg))) X hw (tP (okP_l hi1)) rfl inA_X2 1 (by decide) (List.mem_append_left _ (List.mem_map.mpr ⟨_, List.mem_of_getElem? (i := 13) rfl, rfl⟩)) rfl dX1_build_39 ?_
      refine lv_if_le (tgt := 206) hx hb dX1_build_42 (by decide) (fun hc => ?_) (fun hc => ?_)
      · replace h := h.1 hc
        exact m_vret X hr hw hS h dX1_build_206
      · replace h := h.2 hc
        refine lv_aload_n hx hb dX1_build_45 rfl (lv_at hl 0 rfl) ?_
        refine m_get (v := .ref (g.1 2003)) X hw tC rfl inA_X1 1 (by decide) mw_46 rfl dX1_build_46 ?_
        refine lv_aload_n hx hb dX1_build_49 rfl (lv_at hl 0 rfl) ?_
        refine m_get (v := .int (cK σ 0)) X hw tC rfl inA_X1 6 (by decide) mw_429 rfl dX1_build_50 ?_
        obtain ⟨hi2, h⟩ := h
        refine m_aald X hw tL 3 rfl hi2 dX1_build_53 ?_
        refine lv_astore_n (lv' := [(1, .ref (g.1 (4 * (10 + (cK σ 0).toNatClampNeg) + 2))), (0, .ref (g.1 2006))]) hx hb dX1_build_54 rfl hl (by decide) rfl (fun ls hl => ?_)
        refine lv_aload_n hx hb dX1_build_55 rfl (lv_at hl 1 rfl) ?_
        refine m_get (v := .ref (g.1 2003)) X hw tC rfl inA_X1 1 (by decide) mw_46 rfl dX1_build_56 ?_
        refine lv_aload_n hx hb dX1_build_59 rfl (lv_at hl 1 rfl) ?_
        refine m_get (v := .int (cK σ 0)) X hw tC rfl inA_X1 6 (by decide) mw_429 rfl dX1_build_60 ?_
        refine lv_iconst (v := (1 : Int32)) hx hb dX1_build_63 (by decide) ?_
        refine lv_isub hx hb dX1_build_64 ?_
        obtain ⟨hi3, h⟩ := h
        refine m_aald X hw tL 3 rfl hi3 dX1_build_65 ?_
        refine m_getN (v := .int (cD σ (10 + ((cK σ 0) - (1 : Int32)).toNatClampNeg))) X hw (tP (okP_l hi3)) rfl inA_X2 1 (by decide) (List.mem_append_left _ (List.mem_map.mpr ⟨_, List.mem_of_getElem? (i := 13) rfl, rfl⟩)) rfl dX1_build_66 ?_
        refine lv_aload_n hx hb dX1_build_69 rfl (lv_at hl 0 rfl) ?_
        refine m_getN (v := .int (cD σ (10 + (cK σ 0).toNatClampNeg))) X hw (tP (okP_l hi2)) rfl inA_X2 1 (by decide) (List.mem_append_left _ (List.mem_map.mpr ⟨_, List.mem_of_getElem? (i := 13) rfl, rfl⟩)) rfl dX1_build_70 ?_
        refine lv_isub hx hb dX1_build_73 ?_
        refine lv_topi (fun a4 ea4 => ?_)
        replace h := h a4 ea4
        refine lv_istore_n (lv' := [(2, .int a4), (1, .ref (g.1 (4 * (10 + (cK σ 0).toNatClampNeg) + 2))), (0, .ref (g.1 2006))]) hx hb dX1_build_74 rfl hl (by decide) rfl (fun ls hl => ?_)
        refine lv_aload_n hx hb dX1_build_75 rfl (lv_at hl 2 rfl) ?_
        refine m_get (v := .ref (g.1 2002)) X hw tC rfl inA_X1 0 (by decide) mw_44 rfl dX1_build_76 ?_
        refine m_getN (v := .ref (g.1 (4 * 8 + 2))) X hw tB rfl inA_X0 0 (by decide) (List.mem_append_left _ (List.mem_map.mpr ⟨_, List.mem_of_getElem? (i := 15) rfl, rfl⟩)) rfl dX1_build_79 ?_
        refine lv_aload_n hx hb dX1_build_82 rfl (lv_at hl 2 rfl) ?_
        refine m_get (v := .ref (g.1 2003)) X hw tC rfl inA_X1 1 (by decide) mw_46 rfl dX1_build_83 ?_
        refine lv_aload_n hx hb dX1_build_86 rfl (lv_at hl 2 rfl) ?_
        refine m_get (v := .int (cK σ 0)) X hw tC rfl inA_X1 6 (by decide) mw_429 rfl dX1_build_87 ?_
        refine lv_iconst (v := (1 : Int32)) hx hb dX1_build_90 (by decide) ?_
        refine lv_isub hx hb dX1_build_91 ?_
        obtain ⟨hi5, h⟩ := h
        refine m_aald X hw tL 3 rfl hi5 dX1_build_92 ?_
        refine m_cVv (TT := cT g) (As := [.ref (g.1 (4 * (10 + ((cK σ 0) - (1 : Int32)).toNatClampNeg) + 2))]) (rest := []) X hl.1 hw hS (kX2_load hg (by decide : (8 : Nat) < 20) (okP_l hi5) h) mw_407 fX2_load (tP (by decide : (8 : Nat) < 20)) rfl rfl ⟨rfl, rfl, Nat.le_of_ble_eq_true rfl, Nat.le_of_ble_eq_true rfl⟩ rfl rfl (Nat.le_of_ble_eq_true rfl) dX1_build_93 (fun σ7 H locs h hw hS => ?_)
        refine lv_aload_n hx hb dX1_build_96 rfl (lv_at hl 2 rfl) ?_
        refine m_get (v := .ref (g.1 2002)) X hw tC rfl inA_X1 0 (by decide) mw_44 rfl dX1_build_97 ?_
        refine lv_aload_n hx hb dX1_build_100 rfl (lv_at hl 1 rfl) ?_
        refine m_cVv (TT := cT g) (As := [.ref (g.1 (4 * (10 + (cK σ 0).toNatClampNeg) + 2))]) (rest := []) X hl.1 hw hS (kX0_reduce hg (okP_l hi2) h) mw_435 fX0_reduce tB rfl rfl ⟨rfl, rfl, Nat.le_of_ble_eq_true rfl, Nat.le_of_ble_eq_true rfl⟩ rfl rfl (Nat.le_of_ble_eq_true rfl) dX1_build_101 (fun σ9 H locs h hw hS => ?_)
        refine lv_aload_n hx hb dX1_build_104 rfl (lv_at hl 2 rfl) ?_
        refine m_get (v := .ref (g.1 2002)) X hw tC rfl inA_X1 0 (by decide) mw_44 rfl dX1_build_105 ?_
        refine m_getN (v := .ref (g.1 (4 * 8 + 2))) X hw tB rfl inA_X0 0 (by decide) (List.mem_append_left _ (List.mem_map.mpr ⟨_, List.mem_of_getElem? (i := 15) rfl, rfl⟩)) rfl dX1_build_108 ?_
        refine m_getN (v := .int (cD σ9 8)) X hw (tP (by decide : (8 : Nat) < 20)) rfl inA_X2 1 (by decide) (List.mem_append_left _ (List.mem_map.mpr ⟨_, List.mem_of_getElem? (i := 13) rfl, rfl⟩)) rfl dX1_build_111 ?_
        refine lv_if_ge (tgt := 118) hx hb dX1_build_114 (by decide) (fun hc => ?_) (fun hc => ?_)
        · replace h := h.1 hc
          refine lv_aload_n hx hb dX1_build_118 rfl (lv_at hl 2 rfl) ?_
          refine m_get (v := .ref (g.1 (4 * 326))) X hw tC rfl inA_X1 4 (by decide) mw_50 rfl dX1_build_119 ?_
          refine lv_aload_n hx hb dX1_build_122 rfl (lv_at hl 2 rfl) ?_
          refine m_get (v := .ref (g.1 (4 * 324))) X hw tC rfl inA_X1 2 (by decide) mw_48 rfl dX1_build_123 ?_
          refine m_cVv (TT := cT g) (As := [.ref (g.1 (4 * 324))]) (rest := []) X hl.1 hw hS (kX3_load hg (okW_b (by decide)) (okW_b (by decide)) h) mw_436 fX3_load (tW (okW_b (by decide))) rfl rfl ⟨rfl, rfl, Nat.le_of_ble_eq_true rfl, Nat.le_of_ble_eq_true rfl⟩ rfl rfl (Nat.le_of_ble_eq_true rfl) dX1_build_126 (fun σ11 H locs h hw hS => ?_)
          refine lv_aload_n hx hb dX1_build_129 rfl (lv_at hl 2 rfl) ?_
          refine lv_aload_n hx hb dX1_build_130 rfl (lv_at hl 2 rfl) ?_
          refine m_get (v := .ref (g.1 (4 * 325))) X hw tC rfl inA_X1 3 (by decide) mw_49 rfl dX1_build_131 ?_
          refine lv_iload_n hx hb dX1_build_134 rfl (lv_at hl 0 rfl) ?_
          refine m_cVv (TT := cT g) (As := [.ref (g.1 (4 * 325)), .int a4]) (rest := []) X hl.1 hw hS (kX1_raise hg (okW_b (by decide)) h) mw_437 fX1_raise tC rfl rfl ⟨rfl, rfl, Nat.le_of_ble_eq_true rfl, Nat.le_of_ble_eq_true rfl⟩ rfl rfl (Nat.le_of_ble_eq_true rfl) dX1_build_135 (fun σ13 H locs h hw hS => ?_)
          refine lv_aload_n hx hb dX1_build_138 rfl (lv_at hl 2 rfl) ?_
          refine m_get (v := .ref (g.1 2002)) X hw tC rfl inA_X1 0 (by decide) mw_44 rfl dX1_build_139 ?_
          refine lv_aload_n hx hb dX1_build_142 rfl (lv_at hl 2 rfl) ?_
          refine m_get (v := .ref (g.1 2002)) X hw tC rfl inA_X1 0 (by decide) mw_44 rfl dX1_build_143 ?_
          refine m_getN (v := .ref (g.1 (4 * 8 + 2))) X hw tB rfl inA_X0 0 (by decide) (List.mem_append_left _ (List.mem_map.mpr ⟨_, List.mem_of_getElem? (i := 15) rfl, rfl⟩)) rfl dX1_build_146 ?_
          refine lv_aload_n hx hb dX1_build_149 rfl (lv_at hl 2 rfl) ?_
          refine m_get (v := .ref (g.1 (4 * 326))) X hw tC rfl inA_X1 4 (by decide) mw_50 rfl dX1_build_150 ?_
          refine m_cVv (TT := cT g) (As := [.ref (g.1 (4 * 8 + 2)), .ref (g.1 (4 * 326))]) (rest := []) X hl.1 hw hS (kX0_divideAll hg (by decide : (8 : Nat) < 20) (okW_b (by decide)) h) mw_442 fX0_divideAll tB rfl rfl ⟨rfl, rfl, Nat.le_of_ble_eq_true rfl, Nat.le_of_ble_eq_true rfl⟩ rfl rfl (Nat.le_of_ble_eq_true rfl) dX1_build_153 (fun σ15 H locs h hw hS => ?_)
          refine lv_aload_n hx hb dX1_build_156 rfl (lv_at hl 2 rfl) ?_
          refine m_get (v := .ref (g.1 2002)) X hw tC rfl inA_X1 0 (by decide) mw_44 rfl dX1_build_157 ?_
          refine m_getN (v := .ref (g.1 (4 * 8 + 2))) X hw tB rfl inA_X0 0 (by decide) (List.mem_append_left _ (List.mem_map.mpr ⟨_, List.mem_of_getElem? (i := 15) rfl, rfl⟩)) rfl dX1_build_160 ?_
          refine m_cVv (TT := cT g) (As := []) (rest := []) X hl.1 hw hS (kX2_negate hg (by decide : (8 : Nat) < 20) h) mw_443 fX2_negate (tP (by decide : (8 : Nat) < 20)) rfl rfl ⟨rfl, rfl, Nat.le_of_ble_eq_true rfl, Nat.le_of_ble_eq_true rfl⟩ rfl rfl (Nat.le_of_ble_eq_true rfl) dX1_build_163 (fun σ17 H locs h hw hS => ?_)
          refine lv_aload_n hx hb dX1_build_166 rfl (lv_at hl 2 rfl) ?_
          refine m_get (v := .ref (g.1 2003)) X hw tC rfl inA_X1 1 (by decide) mw_46 rfl dX1_build_167 ?_
          refine lv_aload_n hx hb dX1_build_170 rfl (lv_at hl 2 rfl) ?_
          refine m_get (v := .int (cK σ17 0)) X hw tC rfl inA_X1 6 (by decide) mw_429 rfl dX1_build_171 ?_
          refine lv_iconst (v := (1 : Int32)) hx hb dX1_build_174 (by decide) ?_
          refine lv_iadd hx hb dX1_build_175 ?_
          obtain ⟨hi18, h⟩ := h
          refine m_aald X hw tL 3 rfl hi18 dX1_build_176 ?_
          refine lv_aload_n hx hb dX1_build_177 rfl (lv_at hl 2 rfl) ?_
          refine m_get (v := .ref (g.1 2002)) X hw tC rfl inA_X1 0 (by decide) mw_44 rfl dX1_build_178 ?_
          refine m_getN (v := .ref (g.1 (4 * 8 + 2))) X hw tB rfl inA_X0 0 (by decide) (List.mem_append_left _ (List.mem_map.mpr ⟨_, List.mem_of_getElem? (i := 15) rfl, rfl⟩)) rfl dX1_build_181 ?_
          refine m_cVv (TT := cT g) (As := [.ref (g.1 (4 * 8 + 2))]) (rest := []) X hl.1 hw hS (kX2_load hg (okP_l hi18) (by decide : (8 : Nat) < 20) h) mw_407 fX2_load (tP (okP_l hi18)) rfl rfl ⟨rfl, rfl, Nat.le_of_ble_eq_true rfl, Nat.le_of_ble_eq_true rfl⟩ rfl rfl (Nat.le_of_ble_eq_true rfl) dX1_build_184 (fun σ20 H locs h hw hS => ?_)
          refine lv_aload_n hx hb dX1_build_187 rfl (lv_at hl 2 rfl) ?_
          refine lv_aload_n hx hb dX1_build_188 rfl (lv_at hl 1 rfl) ?_
          refine lv_iload_n hx hb dX1_build_189 rfl (lv_at hl 0 rfl) ?_
          refine m_cVv (TT := cT g) (As := [.ref (g.1 (4 * (10 + (cK σ 0).toNatClampNeg) + 2)), .int a4]) (rest := []) X hl.1 hw hS (kX1_follow hg (okP_l hi2) h) mw_444 fX1_follow tC rfl rfl ⟨rfl, rfl, Nat.le_of_ble_eq_true rfl, Nat.le_of_ble_eq_true rfl⟩ rfl rfl (Nat.le_of_ble_eq_true rfl) dX1_build_190 (fun σ22 H locs h hw hS => ?_)
          refine lv_aload_n hx hb dX1_build_193 rfl (lv_at hl 2 rfl) ?_
          refine lv_dup hx hb dX1_build_194 rfl ?_
          refine m_get (v := .int (cK σ22 0)) X hw tC rfl inA_X1 6 (by decide) mw_429 rfl dX1_build_195 ?_
          refine lv_iconst (v := (1 : Int32)) hx hb dX1_build_198 (by decide) ?_
          refine lv_iadd hx hb dX1_build_199 ?_
          refine m_put (T' := cT g (sK σ22 0 ((cK σ22 0) + (1 : Int32)))) X hw hS tC rfl inA_X1 tyX1 tyX1_ok nmX1 6 (by decide) mw_429 rfl pd_I (Nat.le_of_ble_eq_true rfl) (uK0 hg) dX1_build_200 (fun H locs hw hS => ?_)
          refine lv_goto (tgt := 19) hx hb dX1_build_203 (by decide) ?_
          exact hN19 _ h H locs ls hw hS (lv_sub hl [2] rfl)
        · replace h := h.2 hc
          exact m_vret X hr hw hS h dX1_build_117
def wpX1_build_0 (Q : CS → Prop) (σ : CS) : Prop :=
  wpX3_setOne 324 σ (fun (σ24 : CS) =>
    wpX3_setOne 325 σ24 (fun (σ26 : CS) =>
      ∃ n, lq1 (wbX1_build_19 Q) n (sK σ26 0 (1 : Int32))))
set_option maxRecDepth 100000 in
set_option maxHeartbeats 4000000 in
theorem wX1_build_0 {p : Program} {l : Launch} {e : Env} {s : State} {m : MethodId} {args : Array Value} {below : List Frame} {meth : Method} {c : Code} {D : va_G} {A : Nat → Prop} {g : mG} (hg : inj g) (X : cx p m meth c s args cX1_build 3 RX1 D (tyG g)) (hr : meth.sig.returnType = none) {Q : CS → Prop} : ∀ (σ : CS), wpX1_build_0 Q σ → cW p l e rmX1_build s m args below meth c (MQ below (va_Qv Q (fun u t => wd D A (cT g u) t.heap) A) args s 0 0 A) D A (cT g σ) 0 3 [(0, .ref (g.1 2006))] := by
  obtain ⟨hx, hb, hml, hown, hts, hK, hlk⟩ := id X
  intro σ h H locs ls hw hS hl
  unfold wpX1_build_0 at h
  refine lv_aload_n hx hb dX1_build_0 rfl (lv_at hl 0 rfl) ?_
  refine m_get (v := .ref (g.1 (4 * 324))) X hw tC rfl inA_X1 2 (by decide) mw_48 rfl dX1_build_1 ?_
  refine m_cVv (TT := cT g) (As := []) (rest := []) X hl.1 hw hS (kX3_setOne hg (okW_b (by decide)) h) mw_430 fX3_setOne (tW (okW_b (by decide))) rfl rfl ⟨rfl, rfl, Nat.le_of_ble_eq_true rfl, Nat.le_of_ble_eq_true rfl⟩ rfl rfl (Nat.le_of_ble_eq_true rfl) dX1_build_4 (fun σ24 H locs h hw hS => ?_)
  refine lv_aload_n hx hb dX1_build_7 rfl (lv_at hl 0 rfl) ?_
  refine m_get (v := .ref (g.1 (4 * 325))) X hw tC rfl inA_X1 3 (by decide) mw_49 rfl dX1_build_8 ?_
  refine m_cVv (TT := cT g) (As := []) (rest := []) X hl.1 hw hS (kX3_setOne hg (okW_b (by decide)) h) mw_430 fX3_setOne (tW (okW_b (by decide))) rfl rfl ⟨rfl, rfl, Nat.le_of_ble_eq_true rfl, Nat.le_of_ble_eq_true rfl⟩ rfl rfl (Nat.le_of_ble_eq_true rfl) dX1_build_11 (fun σ26 H locs h hw hS => ?_)
  refine lv_aload_n hx hb dX1_build_14 rfl (lv_at hl 0 rfl) ?_
  refine lv_iconst (v := (1 : Int32)) hx hb dX1_build_15 (by decide) ?_
  refine m_put (T' := cT g (sK σ26 0 (1 : Int32))) X hw hS tC rfl inA_X1 tyX1 tyX1_ok nmX1 6 (by decide) mw_429 rfl pd_I (Nat.le_of_ble_eq_true rfl) (uK0 hg) dX1_build_16 (fun H locs hw hS => ?_)
  obtain ⟨n9, h⟩ := h
  exact wX1_build_19 hg X hr n9 _ h H locs ls hw hS (lv_sub hl [0] rfl)
def wpX1_build (σ : CS) (Q : CS → Prop) : Prop := wpX1_build_0 Q σ
theorem kX1_build {l : Launch} {D : va_G} {A : Nat → Prop} {g : mG} (hg : inj g) {σ : CS} {Q : CS → Prop} (h : wpX1_build σ Q) : Met l yX1_build (Cond.code yX1_build cX1_build 3 none :: wsA) rmX1_build (mPc D (tyG g) A (cT g σ) [.ref (g.1 2006)]) (va_Qv Q (fun u t => wd D A (cT g u) t.heap) A) 0 0 A :=
  m_met (by decide +kernel) (Nat.le_of_ble_eq_true rfl) (fun p e s m below meth c X hr H locs ls hw hS hl => wX1_build_0 hg X hr σ h H locs ls hw hS (lv_sub hl [0] rfl))
theorem fX1_build : vfit yX1_build cX1_build 3 none 0 := ⟨mw_426, mw_427, mw_18, mw_428, by decide +kernel, by decide +kernel, by decide +kernel⟩
/-! BigPolys$Chain.divisorAtEnd()LBigPolys$Poly; -/
def rmX1_divisorAtEnd : Room := { frames := 5, cells := 0, slots := 0, locals := 138 }
def wpX1_divisorAtEnd_53 (Q : Nat → CS → Prop) (q1 : Nat) (σ : CS) : Prop :=
  Q q1 σ
set_option maxRecDepth 100000 in
set_option maxHeartbeats 4000000 in
theorem wX1_divisorAtEnd_53 {p : Program} {l : Launch} {e : Env} {s : State} {m : MethodId} {args : Array Value} {below : List Frame} {meth : Method} {c : Code} {D : va_G} {A : Nat → Prop} {g : mG} (hg : inj g) (X : cx p m meth c s args cX1_divisorAtEnd 2 RX1 D (tyG g)) (hr : meth.sig.returnType = (some (.object "BigPolys$Poly"))) {Q : Nat → CS → Prop} : ∀ (q1 : Nat) (σ : CS), q1 < 20 → wpX1_divisorAtEnd_53 Q q1 σ → cW p l e rmX1_divisorAtEnd s m args below meth c (MQ below (va_Qr (fun u : Nat × CS => Q u.1 u.2) (fun u a t => a = g.1 (4 * u.1 + 2) ∧ u.1 < 20 ∧ wd D A (cT g u.2) t.heap) A) args s 0 0 A) D A (cT g σ) 53 2 [(0, .ref (g.1 2006)), (1, .ref (g.1 (4 * q1 + 2)))] := by
  obtain ⟨hx, hb, hml, hown, hts, hK, hlk⟩ := id X
  intro q1 σ hq1 h H locs ls hw hS hl
  unfold wpX1_divisorAtEnd_53 at h
  refine lv_aload_n hx hb dX1_divisorAtEnd_53 rfl (lv_at hl 1 rfl) ?_
  exact m_aret (u := (q1, σ)) X hr hw hS h hq1 rfl dX1_divisorAtEnd_54
def wpX1_divisorAtEnd_0 (Q : Nat → CS → Prop) (σ : CS) : Prop :=
  vp_in (cK σ 0) 10 ∧ (
  ((1 : Int32) ≤ (cD σ (10 + (cK σ 0).toNatClampNeg)) →
    vp_in (0 : Int32) 10 ∧ (
    vp_in (1 : Int32) 10 ∧ (
    wpX0_makeSmall (10 + (cK σ 0).toNatClampNeg) (10 + (0 : Int32).toNatClampNeg) (10 + (1 : Int32).toNatClampNeg) σ (fun (σ5 : CS) =>
      wpX0_makePrimitive (10 + (cK σ 0).toNatClampNeg) σ5 (fun (σ7 : CS) =>
        wpX1_divisorAtEnd_53 Q (10 + (cK σ 0).toNatClampNeg) σ7))))) ∧
  (¬ (1 : Int32) ≤ (cD σ (10 + (cK σ 0).toNatClampNeg)) →
    wpX2_setOne (10 + (cK σ 0).toNatClampNeg) σ (fun (σ9 : CS) =>
      wpX1_divisorAtEnd_53 Q (10 + (cK σ 0).toNatClampNeg) σ9)))
set_option maxRecDepth 100000 in
set_option maxHeartbeats 4000000 in
theorem wX1_divisorAtEnd_0 {p : Program} {l : Launch} {e : Env} {s : State} {m : MethodId} {args : Array Value} {below : List Frame} {meth : Method} {c : Code} {D : va_G} {A : Nat → Prop} {g : mG} (hg : inj g) (X : cx p m meth c s args cX1_divisorAtEnd 2 RX1 D (tyG g)) (hr : meth.sig.returnType = (some (.object "BigPolys$Poly"))) {Q : Nat → CS → Prop} : ∀ (σ : CS), wpX1_divisorAtEnd_0 Q σ → cW p l e rmX1_divisorAtEnd s m args below meth c (MQ below (va_Qr (fun u : Nat × CS => Q u.1 u.2) (fun u a t => a = g.1 (4 * u.1 + 2) ∧ u.1 < 20 ∧ wd D A (cT g u.2) t.heap) A) args s 0 0 A) D A (cT g σ) 0 2 [(0, .ref (g.1 2006))] := by
  obtain ⟨hx, hb, hml, hown, hts, hK, hlk⟩ := id X
  intro σ h H locs ls hw hS hl
  unfold wpX1_divisorAtEnd_0 at h
  refine lv_aload_n hx hb dX1_divisorAtEnd_0 rfl (lv_at hl 0 rfl) ?_
  refine m_get (v := .ref (g.1 2003)) X hw tC rfl inA_X1 1 (by decide) mw_46 rfl dX1_divisorAtEnd_1 ?_
  refine lv_aload_n hx hb dX1_divisorAtEnd_4 rfl (lv_at hl 0 rfl) ?_
  refine m_get (v := .int (cK σ 0)) X hw tC rfl inA_X1 6 (by decide) mw_429 rfl dX1_divisorAtEnd_5 ?_
  obtain ⟨hi1, h⟩ := h
  refine m_aald X hw tL 3 rfl hi1 dX1_divisorAtEnd_8 ?_
  refine lv_astore_n (lv' := [(1, .ref (g.1 (4 * (10 + (cK σ 0).toNatClampNeg) + 2))), (0, .ref (g.1 2006))]) hx hb dX1_divisorAtEnd_9 rfl hl (by decide) rfl (fun ls hl => ?_)
  refine lv_aload_n hx hb dX1_divisorAtEnd_10 rfl (lv_at hl 0 rfl) ?_
  refine m_getN (v := .int (cD σ (10 + (cK σ 0).toNatClampNeg))) X hw (tP (okP_l hi1)) rfl inA_X2 1 (by decide) (List.mem_append_left _ (List.mem_map.mpr ⟨_, List.mem_of_getElem? (i := 13) rfl, rfl⟩)) rfl dX1_divisorAtEnd_11 ?_
  refine lv_iconst (v := (1 : Int32)) hx hb dX1_divisorAtEnd_14 (by decide) ?_
  refine lv_icmp_ge (tgt := 25) hx hb dX1_divisorAtEnd_15 (by decide) (fun hc => ?_) (fun hc => ?_)
  · replace h := h.1 hc
    refine lv_aload_n hx hb dX1_divisorAtEnd_25 rfl (lv_at hl 1 rfl) ?_
    refine m_get (v := .ref (g.1 2002)) X hw tC rfl inA_X1 0 (by decide) mw_44 rfl dX1_divisorAtEnd_26 ?_
    refine lv_aload_n hx hb dX1_divisorAtEnd_29 rfl (lv_at hl 0 rfl) ?_
    refine lv_aload_n hx hb dX1_divisorAtEnd_30 rfl (lv_at hl 1 rfl) ?_
    refine m_get (v := .ref (g.1 2003)) X hw tC rfl inA_X1 1 (by decide) mw_46 rfl dX1_divisorAtEnd_31 ?_
    refine lv_iconst (v := (0 : Int32)) hx hb dX1_divisorAtEnd_34 (by decide) ?_
    obtain ⟨hi2, h⟩ := h
    refine m_aald X hw tL 3 rfl hi2 dX1_divisorAtEnd_35 ?_
    refine lv_aload_n hx hb dX1_divisorAtEnd_36 rfl (lv_at hl 1 rfl) ?_
    refine m_get (v := .ref (g.1 2003)) X hw tC rfl inA_X1 1 (by decide) mw_46 rfl dX1_divisorAtEnd_37 ?_
    refine lv_iconst (v := (1 : Int32)) hx hb dX1_divisorAtEnd_40 (by decide) ?_
    obtain ⟨hi3, h⟩ := h
    refine m_aald X hw tL 3 rfl hi3 dX1_divisorAtEnd_41 ?_
    refine m_cVv (TT := cT g) (As := [.ref (g.1 (4 * (10 + (cK σ 0).toNatClampNeg) + 2)), .ref (g.1 (4 * (10 + (0 : Int32).toNatClampNeg) + 2)), .ref (g.1 (4 * (10 + (1 : Int32).toNatClampNeg) + 2))]) (rest := []) X hl.1 hw hS (kX0_makeSmall hg (okP_l hi1) (okP_l hi2) (okP_l hi3) h) mw_460 fX0_makeSmall tB rfl rfl ⟨rfl, rfl, Nat.le_of_ble_eq_true rfl, Nat.le_of_ble_eq_true rfl⟩ rfl rfl (Nat.le_of_ble_eq_true rfl) dX1_divisorAtEnd_42 (fun σ5 H locs h hw hS => ?_)
    refine lv_aload_n hx hb dX1_divisorAtEnd_45 rfl (lv_at hl 1 rfl) ?_
    refine m_get (v := .ref (g.1 2002)) X hw tC rfl inA_X1 0 (by decide) mw_44 rfl dX1_divisorAtEnd_46 ?_
    refine lv_aload_n hx hb dX1_divisorAtEnd_49 rfl (lv_at hl 0 rfl) ?_
    refine m_cVv (TT := cT g) (As := [.ref (g.1 (4 * (10 + (cK σ 0).toNatClampNeg) + 2))]) (rest := []) X hl.1 hw hS (kX0_makePrimitive hg (okP_l hi1) h) mw_408 fX0_makePrimitive tB rfl rfl ⟨rfl, rfl, Nat.le_of_ble_eq_true rfl, Nat.le_of_ble_eq_true rfl⟩ rfl rfl (Nat.le_of_ble_eq_true rfl) dX1_divisorAtEnd_50 (fun σ7 H locs h hw hS => ?_)
    exact wX1_divisorAtEnd_53 hg X hr (10 + (cK σ 0).toNatClampNeg) _ (okP_l hi1) h H locs ls hw hS (lv_sub hl [1, 0] rfl)
  · replace h := h.2 hc
    refine lv_aload_n hx hb dX1_divisorAtEnd_18 rfl (lv_at hl 0 rfl) ?_
    refine m_cVv (TT := cT g) (As := []) (rest := []) X hl.1 hw hS (kX2_setOne hg (okP_l hi1) h) mw_454 fX2_setOne (tP (okP_l hi1)) rfl rfl ⟨rfl, rfl, Nat.le_of_ble_eq_true rfl, Nat.le_of_ble_eq_true rfl⟩ rfl rfl (Nat.le_of_ble_eq_true rfl) dX1_divisorAtEnd_19 (fun σ9 H locs h hw hS => ?_)
    refine lv_goto (tgt := 53) hx hb dX1_divisorAtEnd_22 (by decide) ?_
    exact wX1_divisorAtEnd_53 hg X hr (10 + (cK σ 0).toNatClampNeg) _ (okP_l hi1) h H locs ls hw hS (lv_sub hl [1, 0] rfl)
def wpX1_divisorAtEnd (σ : CS) (Q : Nat → CS → Prop) : Prop := wpX1_divisorAtEnd_0 Q σ
theorem kX1_divisorAtEnd {l : Launch} {D : va_G} {A : Nat → Prop} {g : mG} (hg : inj g) {σ : CS} {Q : Nat → CS → Prop} (h : wpX1_divisorAtEnd σ Q) : Met l yX1_divisorAtEnd (Cond.code yX1_divisorAtEnd cX1_divisorAtEnd 2 (some (.object "BigPolys$Poly")) :: wsA) rmX1_divisorAtEnd (mPc D (tyG g) A (cT g σ) [.ref (g.1 2006)]) (va_Qr (fun u : Nat × CS => Q u.1 u.2) (fun u a t => a = g.1 (4 * u.1 + 2) ∧ u.1 < 20 ∧ wd D A (cT g u.2) t.heap) A) 0 0 A :=
  m_met (by decide +kernel) (Nat.le_of_ble_eq_true rfl) (fun p e s m below meth c X hr H locs ls hw hS hl => wX1_divisorAtEnd_0 hg X hr σ h H locs ls hw hS (lv_sub hl [0] rfl))
theorem fX1_divisorAtEnd : vfit yX1_divisorAtEnd cX1_divisorAtEnd 2 (some (.object "BigPolys$Poly")) 0 := ⟨mw_451, mw_452, mw_18, mw_453, by decide +kernel, by decide +kernel, by decide +kernel⟩
/-! BigPolys$Chain.commonDivisor(LBigPolys$Poly;LBigPolys$Poly;)LBigPolys$Poly; -/
def rmX1_commonDivisor : Room := { frames := 6, cells := 0, slots := 0, locals := 159 }
def wpX1_commonDivisor_53 (p1 : Nat) (p2 : Nat) (Q : Nat → CS → Prop) (σ : CS) : Prop :=
  vp_in (1 : Int32) 10 ∧ (
  (0 ≤ (cD σ (10 + (1 : Int32).toNatClampNeg)) →
    wpX1_build σ (fun (σ3 : CS) =>
      wpX1_divisorAtEnd σ3 (fun (q6 : Nat) (σ5 : CS) =>
        Q q6 σ5))) ∧
  (¬ 0 ≤ (cD σ (10 + (1 : Int32).toNatClampNeg)) →
    vp_in (0 : Int32) 10 ∧ (
    wpX0_makePrimitive (10 + (0 : Int32).toNatClampNeg) σ (fun (σ9 : CS) =>
      vp_in (0 : Int32) 10 ∧ (
      Q (10 + (0 : Int32).toNatClampNeg) σ9)))))
set_option maxRecDepth 100000 in
set_option maxHeartbeats 4000000 in
theorem wX1_commonDivisor_53 {p : Program} {l : Launch} {e : Env} {s : State} {m : MethodId} {args : Array Value} {below : List Frame} {meth : Method} {c : Code} {D : va_G} {A : Nat → Prop} {g : mG} (hg : inj g) {p1 : Nat} {p2 : Nat} (hp1 : p1 < 20) (hp2 : p2 < 20) (X : cx p m meth c s args cX1_commonDivisor 4 RX1 D (tyG g)) (hr : meth.sig.returnType = (some (.object "BigPolys$Poly"))) {Q : Nat → CS → Prop} : ∀ (σ : CS), wpX1_commonDivisor_53 p1 p2 Q σ → cW p l e rmX1_commonDivisor s m args below meth c (MQ below (va_Qr (fun u : Nat × CS => Q u.1 u.2) (fun u a t => a = g.1 (4 * u.1 + 2) ∧ u.1 < 20 ∧ wd D A (cT g u.2) t.heap) A) args s 0 0 A) D A (cT g σ) 53 4 [(0, .ref (g.1 2006)), (1, .ref (g.1 (4 * p1 + 2))), (2, .ref (g.1 (4 * p2 + 2)))] := by
  obtain ⟨hx, hb, hml, hown, hts, hK, hlk⟩ := id X
  intro σ h H locs ls hw hS hl
  unfold wpX1_commonDivisor_53 at h
  refine lv_aload_n hx hb dX1_commonDivisor_53 rfl (lv_at hl 0 rfl) ?_
  refine m_get (v := .ref (g.1 2003)) X hw tC rfl inA_X1 1 (by decide) mw_46 rfl dX1_commonDivisor_54 ?_
  refine lv_iconst (v := (1 : Int32)) hx hb dX1_commonDivisor_57 (by decide) ?_
  obtain ⟨hi1, h⟩ := h
  refine m_aald X hw tL 3 rfl hi1 dX1_commonDivisor_58 ?_
  refine m_getN (v := .int (cD σ (10 + (1 : Int32).toNatClampNeg))) X hw (tP (okP_l hi1)) rfl inA_X2 1 (by decide) (List.mem_append_left _ (List.mem_map.mpr ⟨_, List.mem_of_getElem? (i := 13) rfl, rfl⟩)) rfl dX1_commonDivisor_59 ?_
  refine lv_if_ge (tgt := 85) hx hb dX1_commonDivisor_62 (by decide) (fun hc => ?_) (fun hc => ?_)
  · replace h := h.1 hc
    refine lv_aload_n hx hb dX1_commonDivisor_85 rfl (lv_at hl 0 rfl) ?_
    refine m_cVv (TT := cT g) (As := []) (rest := []) X hl.1 hw hS (kX1_build hg h) mw_425 fX1_build tC rfl rfl ⟨rfl, rfl, Nat.le_of_ble_eq_true rfl, Nat.le_of_ble_eq_true rfl⟩ rfl rfl (Nat.le_of_ble_eq_true rfl) dX1_commonDivisor_86 (fun σ3 H locs h hw hS => ?_)
    refine lv_aload_n hx hb dX1_commonDivisor_89 rfl (lv_at hl 0 rfl) ?_
    refine m_cVr (TT := fun u : Nat × CS => cT g u.2) (av := fun u => g.1 (4 * u.1 + 2)) (ok := fun u => u.1 < 20) (As := []) (rest := []) X hl.1 hw hS (kX1_divisorAtEnd hg h) mw_450 fX1_divisorAtEnd tC rfl rfl ⟨rfl, rfl, Nat.le_of_ble_eq_true rfl, Nat.le_of_ble_eq_true rfl⟩ rfl rfl (Nat.le_of_ble_eq_true rfl) dX1_commonDivisor_90 (fun u9 H locs h hq6 hw hS => ?_)
    obtain ⟨q6, σ5⟩ := u9
    replace hq6 : q6 < 20 := hq6
    exact m_aret (u := (q6, σ5)) X hr hw hS h hq6 rfl dX1_commonDivisor_93
  · replace h := h.2 hc
    refine lv_aload_n hx hb dX1_commonDivisor_65 rfl (lv_at hl 0 rfl) ?_
    refine m_get (v := .ref (g.1 2002)) X hw tC rfl inA_X1 0 (by decide) mw_44 rfl dX1_commonDivisor_66 ?_
    refine lv_aload_n hx hb dX1_commonDivisor_69 rfl (lv_at hl 0 rfl) ?_
    refine m_get (v := .ref (g.1 2003)) X hw tC rfl inA_X1 1 (by decide) mw_46 rfl dX1_commonDivisor_70 ?_
    refine lv_iconst (v := (0 : Int32)) hx hb dX1_commonDivisor_73 (by decide) ?_
    obtain ⟨hi7, h⟩ := h
    refine m_aald X hw tL 3 rfl hi7 dX1_commonDivisor_74 ?_
    refine m_cVv (TT := cT g) (As := [.ref (g.1 (4 * (10 + (0 : Int32).toNatClampNeg) + 2))]) (rest := []) X hl.1 hw hS (kX0_makePrimitive hg (okP_l hi7) h) mw_408 fX0_makePrimitive tB rfl rfl ⟨rfl, rfl, Nat.le_of_ble_eq_true rfl, Nat.le_of_ble_eq_true rfl⟩ rfl rfl (Nat.le_of_ble_eq_true rfl) dX1_commonDivisor_75 (fun σ9 H locs h hw hS => ?_)
    refine lv_aload_n hx hb dX1_commonDivisor_78 rfl (lv_at hl 0 rfl) ?_
    refine m_get (v := .ref (g.1 2003)) X hw tC rfl inA_X1 1 (by decide) mw_46 rfl dX1_commonDivisor_79 ?_
    refine lv_iconst (v := (0 : Int32)) hx hb dX1_commonDivisor_82 (by decide) ?_
    obtain ⟨hi10, h⟩ := h
    refine m_aald X hw tL 3 rfl hi10 dX1_commonDivisor_83 ?_
    exact m_aret (u := (10 + (0 : Int32).toNatClampNeg, σ9)) X hr hw hS h (okP_l hi10) rfl dX1_commonDivisor_84
def wpX1_commonDivisor_35 (p1 : Nat) (p2 : Nat) (Q : Nat → CS → Prop) (i3 : Int32) (σ : CS) : Prop :=
  vp_in (1 : Int32) 10 ∧ (
  (i3 = 0 →
    wpX2_load (10 + (1 : Int32).toNatClampNeg) p1 σ (fun (σ13 : CS) =>
      wpX1_commonDivisor_53 p1 p2 Q σ13)) ∧
  (¬ i3 = 0 →
    wpX2_load (10 + (1 : Int32).toNatClampNeg) p2 σ (fun (σ15 : CS) =>
      wpX1_commonDivisor_53 p1 p2 Q σ15)))
set_option maxRecDepth 100000 in
set_option maxHeartbeats 4000000 in
theorem wX1_commonDivisor_35 {p : Program} {l : Launch} {e : Env} {s : State} {m : MethodId} {args : Array Value} {below : List Frame} {meth : Method} {c : Code} {D : va_G} {A : Nat → Prop} {g : mG} (hg : inj g) {p1 : Nat} {p2 : Nat} (hp1 : p1 < 20) (hp2 : p2 < 20) (X : cx p m meth c s args cX1_commonDivisor 4 RX1 D (tyG g)) (hr : meth.sig.returnType = (some (.object "BigPolys$Poly"))) {Q : Nat → CS → Prop} : ∀ (i3 : Int32) (σ : CS), wpX1_commonDivisor_35 p1 p2 Q i3 σ → cW p l e rmX1_commonDivisor s m args below meth c (MQ below (va_Qr (fun u : Nat × CS => Q u.1 u.2) (fun u a t => a = g.1 (4 * u.1 + 2) ∧ u.1 < 20 ∧ wd D A (cT g u.2) t.heap) A) args s 0 0 A) D A (cT g σ) 35 4 [(0, .ref (g.1 2006)), (1, .ref (g.1 (4 * p1 + 2))), (2, .ref (g.1 (4 * p2 + 2))), (3, .int i3)] := by
  obtain ⟨hx, hb, hml, hown, hts, hK, hlk⟩ := id X
  intro i3 σ h H locs ls hw hS hl
  unfold wpX1_commonDivisor_35 at h
  refine lv_aload_n hx hb dX1_commonDivisor_35 rfl (lv_at hl 0 rfl) ?_
  refine m_get (v := .ref (g.1 2003)) X hw tC rfl inA_X1 1 (by decide) mw_46 rfl dX1_commonDivisor_36 ?_
  refine lv_iconst (v := (1 : Int32)) hx hb dX1_commonDivisor_39 (by decide) ?_
  obtain ⟨hi11, h⟩ := h
  refine m_aald X hw tL 3 rfl hi11 dX1_commonDivisor_40 ?_
  refine lv_iload_n hx hb dX1_commonDivisor_41 rfl (lv_at hl 3 rfl) ?_
  refine lv_if_eq (tgt := 49) hx hb dX1_commonDivisor_42 (by decide) (fun hc => ?_) (fun hc => ?_)
  · replace h := h.1 hc
    refine lv_aload_n hx hb dX1_commonDivisor_49 rfl (lv_at hl 1 rfl) ?_
    refine m_cVv (TT := cT g) (As := [.ref (g.1 (4 * p1 + 2))]) (rest := []) X hl.1 hw hS (kX2_load hg (okP_l hi11) hp1 h) mw_407 fX2_load (tP (okP_l hi11)) rfl rfl ⟨rfl, rfl, Nat.le_of_ble_eq_true rfl, Nat.le_of_ble_eq_true rfl⟩ rfl rfl (Nat.le_of_ble_eq_true rfl) dX1_commonDivisor_50 (fun σ13 H locs h hw hS => ?_)
    exact wX1_commonDivisor_53 hg hp1 hp2 X hr _ h H locs ls hw hS (lv_sub hl [0, 1, 2] rfl)
  · replace h := h.2 hc
    refine lv_aload_n hx hb dX1_commonDivisor_45 rfl (lv_at hl 2 rfl) ?_
    refine lv_goto (tgt := 50) hx hb dX1_commonDivisor_46 (by decide) ?_
    refine m_cVv (TT := cT g) (As := [.ref (g.1 (4 * p2 + 2))]) (rest := []) X hl.1 hw hS (kX2_load hg (okP_l hi11) hp2 h) mw_407 fX2_load (tP (okP_l hi11)) rfl rfl ⟨rfl, rfl, Nat.le_of_ble_eq_true rfl, Nat.le_of_ble_eq_true rfl⟩ rfl rfl (Nat.le_of_ble_eq_true rfl) dX1_commonDivisor_50 (fun σ15 H locs h hw hS => ?_)
    exact wX1_commonDivisor_53 hg hp1 hp2 X hr _ h H locs ls hw hS (lv_sub hl [0, 1, 2] rfl)
def wpX1_commonDivisor_17 (p1 : Nat) (p2 : Nat) (Q : Nat → CS → Prop) (i3 : Int32) (σ : CS) : Prop :=
  vp_in (0 : Int32) 10 ∧ (
  (i3 = 0 →
    wpX2_load (10 + (0 : Int32).toNatClampNeg) p2 σ (fun (σ18 : CS) =>
      wpX1_commonDivisor_35 p1 p2 Q i3 σ18)) ∧
  (¬ i3 = 0 →
    wpX2_load (10 + (0 : Int32).toNatClampNeg) p1 σ (fun (σ20 : CS) =>
      wpX1_commonDivisor_35 p1 p2 Q i3 σ20)))
set_option maxRecDepth 100000 in
set_option maxHeartbeats 4000000 in
theorem wX1_commonDivisor_17 {p : Program} {l : Launch} {e : Env} {s : State} {m : MethodId} {args : Array Value} {below : List Frame} {meth : Method} {c : Code} {D : va_G} {A : Nat → Prop} {g : mG} (hg : inj g) {p1 : Nat} {p2 : Nat} (hp1 : p1 < 20) (hp2 : p2 < 20) (X : cx p m meth c s args cX1_commonDivisor 4 RX1 D (tyG g)) (hr : meth.sig.returnType = (some (.object "BigPolys$Poly"))) {Q : Nat → CS → Prop} : ∀ (i3 : Int32) (σ : CS), wpX1_commonDivisor_17 p1 p2 Q i3 σ → cW p l e rmX1_commonDivisor s m args below meth c (MQ below (va_Qr (fun u : Nat × CS => Q u.1 u.2) (fun u a t => a = g.1 (4 * u.1 + 2) ∧ u.1 < 20 ∧ wd D A (cT g u.2) t.heap) A) args s 0 0 A) D A (cT g σ) 17 4 [(0, .ref (g.1 2006)), (1, .ref (g.1 (4 * p1 + 2))), (2, .ref (g.1 (4 * p2 + 2))), (3, .int i3)] := by
  obtain ⟨hx, hb, hml, hown, hts, hK, hlk⟩ := id X
  intro i3 σ h H locs ls hw hS hl
  unfold wpX1_commonDivisor_17 at h
  refine lv_aload_n hx hb dX1_commonDivisor_17 rfl (lv_at hl 0 rfl) ?_
  refine m_get (v := .ref (g.1 2003)) X hw tC rfl inA_X1 1 (by decide) mw_46 rfl dX1_commonDivisor_18 ?_
  refine lv_iconst (v := (0 : Int32)) hx hb dX1_commonDivisor_21 (by decide) ?_
  obtain ⟨hi16, h⟩ := h
  refine m_aald X hw tL 3 rfl hi16 dX1_commonDivisor_22 ?_
  refine lv_iload_n hx hb dX1_commonDivisor_23 rfl (lv_at hl 3 rfl) ?_
  refine lv_if_eq (tgt := 31) hx hb dX1_commonDivisor_24 (by decide) (fun hc => ?_) (fun hc => ?_)
  · replace h := h.1 hc
    refine lv_aload_n hx hb dX1_commonDivisor_31 rfl (lv_at hl 2 rfl) ?_
    refine m_cVv (TT := cT g) (As := [.ref (g.1 (4 * p2 + 2))]) (rest := []) X hl.1 hw hS (kX2_load hg (okP_l hi16) hp2 h) mw_407 fX2_load (tP (okP_l hi16)) rfl rfl ⟨rfl, rfl, Nat.le_of_ble_eq_true rfl, Nat.le_of_ble_eq_true rfl⟩ rfl rfl (Nat.le_of_ble_eq_true rfl) dX1_commonDivisor_32 (fun σ18 H locs h hw hS => ?_)
    exact wX1_commonDivisor_35 hg hp1 hp2 X hr i3 _ h H locs ls hw hS (lv_sub hl [0, 1, 2, 3] rfl)
  · replace h := h.2 hc
    refine lv_aload_n hx hb dX1_commonDivisor_27 rfl (lv_at hl 1 rfl) ?_
    refine lv_goto (tgt := 32) hx hb dX1_commonDivisor_28 (by decide) ?_
    refine m_cVv (TT := cT g) (As := [.ref (g.1 (4 * p1 + 2))]) (rest := []) X hl.1 hw hS (kX2_load hg (okP_l hi16) hp1 h) mw_407 fX2_load (tP (okP_l hi16)) rfl rfl ⟨rfl, rfl, Nat.le_of_ble_eq_true rfl, Nat.le_of_ble_eq_true rfl⟩ rfl rfl (Nat.le_of_ble_eq_true rfl) dX1_commonDivisor_32 (fun σ20 H locs h hw hS => ?_)
    exact wX1_commonDivisor_35 hg hp1 hp2 X hr i3 _ h H locs ls hw hS (lv_sub hl [0, 1, 2, 3] rfl)
def wpX1_commonDivisor_0 (p1 : Nat) (p2 : Nat) (Q : Nat → CS → Prop) (σ : CS) : Prop :=
  ((cD σ p1) < (cD σ p2) →
    wpX1_commonDivisor_17 p1 p2 Q (0 : Int32) σ) ∧
  (¬ (cD σ p1) < (cD σ p2) →
    wpX1_commonDivisor_17 p1 p2 Q (1 : Int32) σ)
set_option maxRecDepth 100000 in
set_option maxHeartbeats 4000000 in
theorem wX1_commonDivisor_0 {p : Program} {l : Launch} {e : Env} {s : State} {m : MethodId} {args : Array Value} {below : List Frame} {meth : Method} {c : Code} {D : va_G} {A : Nat → Prop} {g : mG} (hg : inj g) {p1 : Nat} {p2 : Nat} (hp1 : p1 < 20) (hp2 : p2 < 20) (X : cx p m meth c s args cX1_commonDivisor 4 RX1 D (tyG g)) (hr : meth.sig.returnType = (some (.object "BigPolys$Poly"))) {Q : Nat → CS → Prop} : ∀ (σ : CS), wpX1_commonDivisor_0 p1 p2 Q σ → cW p l e rmX1_commonDivisor s m args below meth c (MQ below (va_Qr (fun u : Nat × CS => Q u.1 u.2) (fun u a t => a = g.1 (4 * u.1 + 2) ∧ u.1 < 20 ∧ wd D A (cT g u.2) t.heap) A) args s 0 0 A) D A (cT g σ) 0 4 [(0, .ref (g.1 2006)), (1, .ref (g.1 (4 * p1 + 2))), (2, .ref (g.1 (4 * p2 + 2)))] := by
  obtain ⟨hx, hb, hml, hown, hts, hK, hlk⟩ := id X
  intro σ h H locs ls hw hS hl
  unfold wpX1_commonDivisor_0 at h
  refine lv_aload_n hx hb dX1_commonDivisor_0 rfl (lv_at hl 1 rfl) ?_
  refine m_getN (v := .int (cD σ p1)) X hw (tP hp1) rfl inA_X2 1 (by decide) (List.mem_append_left _ (List.mem_map.mpr ⟨_, List.mem_of_getElem? (i := 13) rfl, rfl⟩)) rfl dX1_commonDivisor_1 ?_
  refine lv_aload_n hx hb dX1_commonDivisor_4 rfl (lv_at hl 2 rfl) ?_
  refine m_getN (v := .int (cD σ p2)) X hw (tP hp2) rfl inA_X2 1 (by decide) (List.mem_append_left _ (List.mem_map.mpr ⟨_, List.mem_of_getElem? (i := 13) rfl, rfl⟩)) rfl dX1_commonDivisor_5 ?_
  refine lv_icmp_lt (tgt := 15) hx hb dX1_commonDivisor_8 (by decide) (fun hc => ?_) (fun hc => ?_)
  · replace h := h.1 hc
    refine lv_iconst (v := (0 : Int32)) hx hb dX1_commonDivisor_15 (by decide) ?_
    refine lv_istore_n (lv' := [(3, .int (0 : Int32)), (0, .ref (g.1 2006)), (1, .ref (g.1 (4 * p1 + 2))), (2, .ref (g.1 (4 * p2 + 2)))]) hx hb dX1_commonDivisor_16 rfl hl (by decide) rfl (fun ls hl => ?_)
    exact wX1_commonDivisor_17 hg hp1 hp2 X hr (0 : Int32) _ h H locs ls hw hS (lv_sub hl [1, 2, 3, 0] rfl)
  · replace h := h.2 hc
    refine lv_iconst (v := (1 : Int32)) hx hb dX1_commonDivisor_11 (by decide) ?_
    refine lv_goto (tgt := 16) hx hb dX1_commonDivisor_12 (by decide) ?_
    refine lv_istore_n (lv' := [(3, .int (1 : Int32)), (0, .ref (g.1 2006)), (1, .ref (g.1 (4 * p1 + 2))), (2, .ref (g.1 (4 * p2 + 2)))]) hx hb dX1_commonDivisor_16 rfl hl (by decide) rfl (fun ls hl => ?_)
    exact wX1_commonDivisor_17 hg hp1 hp2 X hr (1 : Int32) _ h H locs ls hw hS (lv_sub hl [1, 2, 3, 0] rfl)
def wpX1_commonDivisor (p1 : Nat) (p2 : Nat) (σ : CS) (Q : Nat → CS → Prop) : Prop := wpX1_commonDivisor_0 p1 p2 Q σ
theorem kX1_commonDivisor {l : Launch} {D : va_G} {A : Nat → Prop} {g : mG} (hg : inj g) {p1 : Nat} {p2 : Nat} (hp1 : p1 < 20) (hp2 : p2 < 20) {σ : CS} {Q : Nat → CS → Prop} (h : wpX1_commonDivisor p1 p2 σ Q) : Met l yX1_commonDivisor (Cond.code yX1_commonDivisor cX1_commonDivisor 4 (some (.object "BigPolys$Poly")) :: wsA) rmX1_commonDivisor (mPc D (tyG g) A (cT g σ) [.ref (g.1 2006), .ref (g.1 (4 * p1 + 2)), .ref (g.1 (4 * p2 + 2))]) (va_Qr (fun u : Nat × CS => Q u.1 u.2) (fun u a t => a = g.1 (4 * u.1 + 2) ∧ u.1 < 20 ∧ wd D A (cT g u.2) t.heap) A) 0 0 A :=
  m_met (by decide +kernel) (Nat.le_of_ble_eq_true rfl) (fun p e s m below meth c X hr H locs ls hw hS hl => wX1_commonDivisor_0 hg hp1 hp2 X hr σ h H locs ls hw hS (lv_sub hl [0, 1, 2] rfl))
theorem fX1_commonDivisor : vfit yX1_commonDivisor cX1_commonDivisor 4 (some (.object "BigPolys$Poly")) 2 := ⟨mw_404, mw_405, mw_18, mw_406, by decide +kernel, by decide +kernel, by decide +kernel⟩
/-! BigPolys$Chain.squareFree(LBigPolys$Poly;)LBigPolys$Poly; -/
def rmX1_squareFree : Room := { frames := 6, cells := 0, slots := 0, locals := 159 }
def wpX1_squareFree_0 (p1 : Nat) (Q : Nat → CS → Prop) (σ : CS) : Prop :=
  wpX1_begin p1 σ (fun (σ2 : CS) =>
    ((1 : Int32) ≤ (cD σ2 p1) →
      wpX1_build σ2 (fun (σ4 : CS) =>
        vp_in (0 : Int32) 10 ∧ (
        wpX1_divisorAtEnd σ4 (fun (q8 : Nat) (σ7 : CS) =>
          wpX0_splits (10 + (0 : Int32).toNatClampNeg) q8 σ7 (fun (r9 : Int32) (σ10 : CS) =>
            wpX0_makePrimitive 9 σ10 (fun (σ12 : CS) =>
              Q 9 σ12)))))) ∧
    (¬ (1 : Int32) ≤ (cD σ2 p1) →
      vp_in (0 : Int32) 10 ∧ (
      wpX2_setOne (10 + (0 : Int32).toNatClampNeg) σ2 (fun (σ15 : CS) =>
        vp_in (0 : Int32) 10 ∧ (
        Q (10 + (0 : Int32).toNatClampNeg) σ15)))))
set_option maxRecDepth 100000 in
set_option maxHeartbeats 4000000 in
theorem wX1_squareFree_0 {p : Program} {l : Launch} {e : Env} {s : State} {m : MethodId} {args : Array Value} {below : List Frame} {meth : Method} {c : Code} {D : va_G} {A : Nat → Prop} {g : mG} (hg : inj g) {p1 : Nat} (hp1 : p1 < 20) (X : cx p m meth c s args cX1_squareFree 2 RX1 D (tyG g)) (hr : meth.sig.returnType = (some (.object "BigPolys$Poly"))) {Q : Nat → CS → Prop} : ∀ (σ : CS), wpX1_squareFree_0 p1 Q σ → cW p l e rmX1_squareFree s m args below meth c (MQ below (va_Qr (fun u : Nat × CS => Q u.1 u.2) (fun u a t => a = g.1 (4 * u.1 + 2) ∧ u.1 < 20 ∧ wd D A (cT g u.2) t.heap) A) args s 0 0 A) D A (cT g σ) 0 2 [(0, .ref (g.1 2006)), (1, .ref (g.1 (4 * p1 + 2)))] := by
  obtain ⟨hx, hb, hml, hown, hts, hK, hlk⟩ := id X
  intro σ h H locs ls hw hS hl
  unfold wpX1_squareFree_0 at h
  refine lv_aload_n hx hb dX1_squareFree_0 rfl (lv_at hl 0 rfl) ?_
  refine lv_aload_n hx hb dX1_squareFree_1 rfl (lv_at hl 1 rfl) ?_
  refine m_cVv (TT := cT g) (As := [.ref (g.1 (4 * p1 + 2))]) (rest := []) X hl.1 hw hS (kX1_begin hg hp1 h) mw_488 fX1_begin tC rfl rfl ⟨rfl, rfl, Nat.le_of_ble_eq_true rfl, Nat.le_of_ble_eq_true rfl⟩ rfl rfl (Nat.le_of_ble_eq_true rfl) dX1_squareFree_2 (fun σ2 H locs h hw hS => ?_)
  refine lv_aload_n hx hb dX1_squareFree_5 rfl (lv_at hl 1 rfl) ?_
  refine m_getN (v := .int (cD σ2 p1)) X hw (tP hp1) rfl inA_X2 1 (by decide) (List.mem_append_left _ (List.mem_map.mpr ⟨_, List.mem_of_getElem? (i := 13) rfl, rfl⟩)) rfl dX1_squareFree_6 ?_
  refine lv_iconst (v := (1 : Int32)) hx hb dX1_squareFree_9 (by decide) ?_
  refine lv_icmp_ge (tgt := 29) hx hb dX1_squareFree_10 (by decide) (fun hc => ?_) (fun hc => ?_)
  · replace h := h.1 hc
    refine lv_aload_n hx hb dX1_squareFree_29 rfl (lv_at hl 0 rfl) ?_
    refine m_cVv (TT := cT g) (As := []) (rest := []) X hl.1 hw hS (kX1_build hg h) mw_425 fX1_build tC rfl rfl ⟨rfl, rfl, Nat.le_of_ble_eq_true rfl, Nat.le_of_ble_eq_true rfl⟩ rfl rfl (Nat.le_of_ble_eq_true rfl) dX1_squareFree_30 (fun σ4 H locs h hw hS => ?_)
    refine lv_aload_n hx hb dX1_squareFree_33 rfl (lv_at hl 0 rfl) ?_
    refine m_get (v := .ref (g.1 2002)) X hw tC rfl inA_X1 0 (by decide) mw_44 rfl dX1_squareFree_34 ?_
    refine lv_aload_n hx hb dX1_squareFree_37 rfl (lv_at hl 0 rfl) ?_
    refine m_get (v := .ref (g.1 2003)) X hw tC rfl inA_X1 1 (by decide) mw_46 rfl dX1_squareFree_38 ?_
    refine lv_iconst (v := (0 : Int32)) hx hb dX1_squareFree_41 (by decide) ?_
    obtain ⟨hi5, h⟩ := h
    refine m_aald X hw tL 3 rfl hi5 dX1_squareFree_42 ?_
    refine lv_aload_n hx hb dX1_squareFree_43 rfl (lv_at hl 0 rfl) ?_
    refine m_cVr (TT := fun u : Nat × CS => cT g u.2) (av := fun u => g.1 (4 * u.1 + 2)) (ok := fun u => u.1 < 20) (As := []) (rest := [.ref (g.1 (4 * (10 + (0 : Int32).toNatClampNeg) + 2)), .ref (g.1 2002)]) X hl.1 hw hS (kX1_divisorAtEnd hg h) mw_450 fX1_divisorAtEnd tC rfl rfl ⟨rfl, rfl, Nat.le_of_ble_eq_true rfl, Nat.le_of_ble_eq_true rfl⟩ rfl rfl (Nat.le_of_ble_eq_true rfl) dX1_squareFree_44 (fun u9 H locs h hq8 hw hS => ?_)
    obtain ⟨q8, σ7⟩ := u9
    replace hq8 : q8 < 20 := hq8
    refine m_cVi (TT := cT g) (As := [.ref (g.1 (4 * (10 + (0 : Int32).toNatClampNeg) + 2)), .ref (g.1 (4 * q8 + 2))]) (rest := []) X hl.1 hw hS (kX0_splits hg (okP_l hi5) hq8 h) mw_493 fX0_splits tB rfl rfl ⟨rfl, rfl, Nat.le_of_ble_eq_true rfl, Nat.le_of_ble_eq_true rfl⟩ rfl rfl (Nat.le_of_ble_eq_true rfl) dX1_squareFree_47 (fun r9 σ10 H locs h hw hS => ?_)
    refine lv_pop hx hb dX1_squareFree_50 rfl ?_
    refine lv_aload_n hx hb dX1_squareFree_51 rfl (lv_at hl 0 rfl) ?_
    refine m_get (v := .ref (g.1 2002)) X hw tC rfl inA_X1 0 (by decide) mw_44 rfl dX1_squareFree_52 ?_
    refine lv_aload_n hx hb dX1_squareFree_55 rfl (lv_at hl 0 rfl) ?_
    refine m_get (v := .ref (g.1 2002)) X hw tC rfl inA_X1 0 (by decide) mw_44 rfl dX1_squareFree_56 ?_
    refine m_getN (v := .ref (g.1 (4 * 9 + 2))) X hw tB rfl inA_X0 1 (by decide) (List.mem_append_left _ (List.mem_map.mpr ⟨_, List.mem_of_getElem? (i := 14) rfl, rfl⟩)) rfl dX1_squareFree_59 ?_
    refine m_cVv (TT := cT g) (As := [.ref (g.1 (4 * 9 + 2))]) (rest := []) X hl.1 hw hS (kX0_makePrimitive hg (by decide : (9 : Nat) < 20) h) mw_408 fX0_makePrimitive tB rfl rfl ⟨rfl, rfl, Nat.le_of_ble_eq_true rfl, Nat.le_of_ble_eq_true rfl⟩ rfl rfl (Nat.le_of_ble_eq_true rfl) dX1_squareFree_62 (fun σ12 H locs h hw hS => ?_)
    refine lv_aload_n hx hb dX1_squareFree_65 rfl (lv_at hl 0 rfl) ?_
    refine m_get (v := .ref (g.1 2002)) X hw tC rfl inA_X1 0 (by decide) mw_44 rfl dX1_squareFree_66 ?_
    refine m_getN (v := .ref (g.1 (4 * 9 + 2))) X hw tB rfl inA_X0 1 (by decide) (List.mem_append_left _ (List.mem_map.mpr ⟨_, List.mem_of_getElem? (i := 14) rfl, rfl⟩)) rfl dX1_squareFree_69 ?_
    exact m_aret (u := (9, σ12)) X hr hw hS h (by decide : (9 : Nat) < 20) rfl dX1_squareFree_72
  · replace h := h.2 hc
    refine lv_aload_n hx hb dX1_squareFree_13 rfl (lv_at hl 0 rfl) ?_
    refine m_get (v := .ref (g.1 2003)) X hw tC rfl inA_X1 1 (by decide) mw_46 rfl dX1_squareFree_14 ?_
    refine lv_iconst (v := (0 : Int32)) hx hb dX1_squareFree_17 (by decide) ?_
    obtain ⟨hi13, h⟩ := h
    refine m_aald X hw tL 3 rfl hi13 dX1_squareFree_18 ?_
    refine m_cVv (TT := cT g) (As := []) (rest := []) X hl.1 hw hS (kX2_setOne hg (okP_l hi13) h) mw_454 fX2_setOne (tP (okP_l hi13)) rfl rfl ⟨rfl, rfl, Nat.le_of_ble_eq_true rfl, Nat.le_of_ble_eq_true rfl⟩ rfl rfl (Nat.le_of_ble_eq_true rfl) dX1_squareFree_19 (fun σ15 H locs h hw hS => ?_)
    refine lv_aload_n hx hb dX1_squareFree_22 rfl (lv_at hl 0 rfl) ?_
    refine m_get (v := .ref (g.1 2003)) X hw tC rfl inA_X1 1 (by decide) mw_46 rfl dX1_squareFree_23 ?_
    refine lv_iconst (v := (0 : Int32)) hx hb dX1_squareFree_26 (by decide) ?_
    obtain ⟨hi16, h⟩ := h
    refine m_aald X hw tL 3 rfl hi16 dX1_squareFree_27 ?_
    exact m_aret (u := (10 + (0 : Int32).toNatClampNeg, σ15)) X hr hw hS h (okP_l hi16) rfl dX1_squareFree_28
def wpX1_squareFree (p1 : Nat) (σ : CS) (Q : Nat → CS → Prop) : Prop := wpX1_squareFree_0 p1 Q σ
theorem kX1_squareFree {l : Launch} {D : va_G} {A : Nat → Prop} {g : mG} (hg : inj g) {p1 : Nat} (hp1 : p1 < 20) {σ : CS} {Q : Nat → CS → Prop} (h : wpX1_squareFree p1 σ Q) : Met l yX1_squareFree (Cond.code yX1_squareFree cX1_squareFree 2 (some (.object "BigPolys$Poly")) :: wsA) rmX1_squareFree (mPc D (tyG g) A (cT g σ) [.ref (g.1 2006), .ref (g.1 (4 * p1 + 2))]) (va_Qr (fun u : Nat × CS => Q u.1 u.2) (fun u a t => a = g.1 (4 * u.1 + 2) ∧ u.1 < 20 ∧ wd D A (cT g u.2) t.heap) A) 0 0 A :=
  m_met (by decide +kernel) (Nat.le_of_ble_eq_true rfl) (fun p e s m below meth c X hr H locs ls hw hS hl => wX1_squareFree_0 hg hp1 X hr σ h H locs ls hw hS (lv_sub hl [0, 1] rfl))
theorem fX1_squareFree : vfit yX1_squareFree cX1_squareFree 2 (some (.object "BigPolys$Poly")) 1 := ⟨mw_485, mw_486, mw_18, mw_487, by decide +kernel, by decide +kernel, by decide +kernel⟩
/-! BigPolys$Chain.prepare(LBigPolys$Poly;)V -/
def rmX1_prepare : Room := { frames := 6, cells := 0, slots := 0, locals := 159 }
def wpX1_prepare_0 (p1 : Nat) (Q : CS → Prop) (σ : CS) : Prop :=
  wpX1_begin p1 σ (fun (σ2 : CS) =>
    ((1 : Int32) ≤ (cD σ2 p1) →
      wpX1_build σ2 (fun (σ4 : CS) =>
        vp_in (cK σ4 0) 10 ∧ (
        ((cD σ4 (10 + (cK σ4 0).toNatClampNeg)) ≤ 0 →
          Q σ4) ∧
        (¬ (cD σ4 (10 + (cK σ4 0).toNatClampNeg)) ≤ 0 →
          vp_in (0 : Int32) 10 ∧ (
          wpX1_divisorAtEnd σ4 (fun (q9 : Nat) (σ8 : CS) =>
            wpX0_splits (10 + (0 : Int32).toNatClampNeg) q9 σ8 (fun (r10 : Int32) (σ11 : CS) =>
              wpX1_begin 9 σ11 (fun (σ13 : CS) =>
                wpX1_build σ13 (fun (σ15 : CS) =>
                  Q σ15))))))))) ∧
    (¬ (1 : Int32) ≤ (cD σ2 p1) →
      Q (sK σ2 0 (0 : Int32))))
set_option maxRecDepth 100000 in
set_option maxHeartbeats 4000000 in
theorem wX1_prepare_0 {p : Program} {l : Launch} {e : Env} {s : State} {m : MethodId} {args : Array Value} {below : List Frame} {meth : Method} {c : Code} {D : va_G} {A : Nat → Prop} {g : mG} (hg : inj g) {p1 : Nat} (hp1 : p1 < 20) (X : cx p m meth c s args cX1_prepare 2 RX1 D (tyG g)) (hr : meth.sig.returnType = none) {Q : CS → Prop} : ∀ (σ : CS), wpX1_prepare_0 p1 Q σ → cW p l e rmX1_prepare s m args below meth c (MQ below (va_Qv Q (fun u t => wd D A (cT g u) t.heap) A) args s 0 0 A) D A (cT g σ) 0 2 [(0, .ref (g.1 2006)), (1, .ref (g.1 (4 * p1 + 2)))] := by
  obtain ⟨hx, hb, hml, hown, hts, hK, hlk⟩ := id X
  intro σ h H locs ls hw hS hl
  unfold wpX1_prepare_0 at h
  refine lv_aload_n hx hb dX1_prepare_0 rfl (lv_at hl 0 rfl) ?_
  refine lv_aload_n hx hb dX1_prepare_1 rfl (lv_at hl 1 rfl) ?_
  refine m_cVv (TT := cT g) (As := [.ref (g.1 (4 * p1 + 2))]) (rest := []) X hl.1 hw hS (kX1_begin hg hp1 h) mw_488 fX1_begin tC rfl rfl ⟨rfl, rfl, Nat.le_of_ble_eq_true rfl, Nat.le_of_ble_eq_true rfl⟩ rfl rfl (Nat.le_of_ble_eq_true rfl) dX1_prepare_2 (fun σ2 H locs h hw hS => ?_)
  refine lv_aload_n hx hb dX1_prepare_5 rfl (lv_at hl 1 rfl) ?_
  refine m_getN (v := .int (cD σ2 p1)) X hw (tP hp1) rfl inA_X2 1 (by decide) (List.mem_append_left _ (List.mem_map.mpr ⟨_, List.mem_of_getElem? (i := 13) rfl, rfl⟩)) rfl dX1_prepare_6 ?_
  refine lv_iconst (v := (1 : Int32)) hx hb dX1_prepare_9 (by decide) ?_
  refine lv_icmp_ge (tgt := 19) hx hb dX1_prepare_10 (by decide) (fun hc => ?_) (fun hc => ?_)
  · replace h := h.1 hc
    refine lv_aload_n hx hb dX1_prepare_19 rfl (lv_at hl 0 rfl) ?_
    refine m_cVv (TT := cT g) (As := []) (rest := []) X hl.1 hw hS (kX1_build hg h) mw_425 fX1_build tC rfl rfl ⟨rfl, rfl, Nat.le_of_ble_eq_true rfl, Nat.le_of_ble_eq_true rfl⟩ rfl rfl (Nat.le_of_ble_eq_true rfl) dX1_prepare_20 (fun σ4 H locs h hw hS => ?_)
    refine lv_aload_n hx hb dX1_prepare_23 rfl (lv_at hl 0 rfl) ?_
    refine m_get (v := .ref (g.1 2003)) X hw tC rfl inA_X1 1 (by decide) mw_46 rfl dX1_prepare_24 ?_
    refine lv_aload_n hx hb dX1_prepare_27 rfl (lv_at hl 0 rfl) ?_
    refine m_get (v := .int (cK σ4 0)) X hw tC rfl inA_X1 6 (by decide) mw_429 rfl dX1_prepare_28 ?_
    obtain ⟨hi5, h⟩ := h
    refine m_aald X hw tL 3 rfl hi5 dX1_prepare_31 ?_
    refine m_getN (v := .int (cD σ4 (10 + (cK σ4 0).toNatClampNeg))) X hw (tP (okP_l hi5)) rfl inA_X2 1 (by decide) (List.mem_append_left _ (List.mem_map.mpr ⟨_, List.mem_of_getElem? (i := 13) rfl, rfl⟩)) rfl dX1_prepare_32 ?_
    refine lv_if_le (tgt := 71) hx hb dX1_prepare_35 (by decide) (fun hc => ?_) (fun hc => ?_)
    · replace h := h.1 hc
      exact m_vret X hr hw hS h dX1_prepare_71
    · replace h := h.2 hc
      refine lv_aload_n hx hb dX1_prepare_38 rfl (lv_at hl 0 rfl) ?_
      refine m_get (v := .ref (g.1 2002)) X hw tC rfl inA_X1 0 (by decide) mw_44 rfl dX1_prepare_39 ?_
      refine lv_aload_n hx hb dX1_prepare_42 rfl (lv_at hl 0 rfl) ?_
      refine m_get (v := .ref (g.1 2003)) X hw tC rfl inA_X1 1 (by decide) mw_46 rfl dX1_prepare_43 ?_
      refine lv_iconst (v := (0 : Int32)) hx hb dX1_prepare_46 (by decide) ?_
      obtain ⟨hi6, h⟩ := h
      refine m_aald X hw tL 3 rfl hi6 dX1_prepare_47 ?_
      refine lv_aload_n hx hb dX1_prepare_48 rfl (lv_at hl 0 rfl) ?_
      refine m_cVr (TT := fun u : Nat × CS => cT g u.2) (av := fun u => g.1 (4 * u.1 + 2)) (ok := fun u => u.1 < 20) (As := []) (rest := [.ref (g.1 (4 * (10 + (0 : Int32).toNatClampNeg) + 2)), .ref (g.1 2002)]) X hl.1 hw hS (kX1_divisorAtEnd hg h) mw_450 fX1_divisorAtEnd tC rfl rfl ⟨rfl, rfl, Nat.le_of_ble_eq_true rfl, Nat.le_of_ble_eq_true rfl⟩ rfl rfl (Nat.le_of_ble_eq_true rfl) dX1_prepare_49 (fun u9 H locs h hq9 hw hS => ?_)
      obtain ⟨q9, σ8⟩ := u9
      replace hq9 : q9 < 20 := hq9
      refine m_cVi (TT := cT g) (As := [.ref (g.1 (4 * (10 + (0 : Int32).toNatClampNeg) + 2)), .ref (g.1 (4 * q9 + 2))]) (rest := []) X hl.1 hw hS (kX0_splits hg (okP_l hi6) hq9 h) mw_493 fX0_splits tB rfl rfl ⟨rfl, rfl, Nat.le_of_ble_eq_true rfl, Nat.le_of_ble_eq_true rfl⟩ rfl rfl (Nat.le_of_ble_eq_true rfl) dX1_prepare_52 (fun r10 σ11 H locs h hw hS => ?_)
      refine lv_pop hx hb dX1_prepare_55 rfl ?_
      refine lv_aload_n hx hb dX1_prepare_56 rfl (lv_at hl 0 rfl) ?_
      refine lv_aload_n hx hb dX1_prepare_57 rfl (lv_at hl 0 rfl) ?_
      refine m_get (v := .ref (g.1 2002)) X hw tC rfl inA_X1 0 (by decide) mw_44 rfl dX1_prepare_58 ?_
      refine m_getN (v := .ref (g.1 (4 * 9 + 2))) X hw tB rfl inA_X0 1 (by decide) (List.mem_append_left _ (List.mem_map.mpr ⟨_, List.mem_of_getElem? (i := 14) rfl, rfl⟩)) rfl dX1_prepare_61 ?_
      refine m_cVv (TT := cT g) (As := [.ref (g.1 (4 * 9 + 2))]) (rest := []) X hl.1 hw hS (kX1_begin hg (by decide : (9 : Nat) < 20) h) mw_488 fX1_begin tC rfl rfl ⟨rfl, rfl, Nat.le_of_ble_eq_true rfl, Nat.le_of_ble_eq_true rfl⟩ rfl rfl (Nat.le_of_ble_eq_true rfl) dX1_prepare_64 (fun σ13 H locs h hw hS => ?_)
      refine lv_aload_n hx hb dX1_prepare_67 rfl (lv_at hl 0 rfl) ?_
      refine m_cVv (TT := cT g) (As := []) (rest := []) X hl.1 hw hS (kX1_build hg h) mw_425 fX1_build tC rfl rfl ⟨rfl, rfl, Nat.le_of_ble_eq_true rfl, Nat.le_of_ble_eq_true rfl⟩ rfl rfl (Nat.le_of_ble_eq_true rfl) dX1_prepare_68 (fun σ15 H locs h hw hS => ?_)
      exact m_vret X hr hw hS h dX1_prepare_71
  · replace h := h.2 hc
    refine lv_aload_n hx hb dX1_prepare_13 rfl (lv_at hl 0 rfl) ?_
    refine lv_iconst (v := (0 : Int32)) hx hb dX1_prepare_14 (by decide) ?_
    refine m_put (T' := cT g (sK σ2 0 (0 : Int32))) X hw hS tC rfl inA_X1 tyX1 tyX1_ok nmX1 6 (by decide) mw_429 rfl pd_I (Nat.le_of_ble_eq_true rfl) (uK0 hg) dX1_prepare_15 (fun H locs hw hS => ?_)
    exact m_vret X hr hw hS h dX1_prepare_18
def wpX1_prepare (p1 : Nat) (σ : CS) (Q : CS → Prop) : Prop := wpX1_prepare_0 p1 Q σ
theorem kX1_prepare {l : Launch} {D : va_G} {A : Nat → Prop} {g : mG} (hg : inj g) {p1 : Nat} (hp1 : p1 < 20) {σ : CS} {Q : CS → Prop} (h : wpX1_prepare p1 σ Q) : Met l yX1_prepare (Cond.code yX1_prepare cX1_prepare 2 none :: wsA) rmX1_prepare (mPc D (tyG g) A (cT g σ) [.ref (g.1 2006), .ref (g.1 (4 * p1 + 2))]) (va_Qv Q (fun u t => wd D A (cT g u) t.heap) A) 0 0 A :=
  m_met (by decide +kernel) (Nat.le_of_ble_eq_true rfl) (fun p e s m below meth c X hr H locs ls hw hS hl => wX1_prepare_0 hg hp1 X hr σ h H locs ls hw hS (lv_sub hl [0, 1] rfl))
theorem fX1_prepare : vfit yX1_prepare cX1_prepare 2 none 1 := ⟨mw_527, mw_528, mw_18, mw_529, by decide +kernel, by decide +kernel, by decide +kernel⟩
