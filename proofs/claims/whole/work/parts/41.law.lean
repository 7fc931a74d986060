/-! THE LAW: its loop over the script, the pure step as a hypothesis -/
def LawStep (Rel : CS → RS → Prop) : Prop :=
  (∀ (σ : CS) (ρ : RS), Rel σ ρ → ∀ a1 a2 a3 : Int32, wpX4_coefficient a1 a2 a3 σ (fun r σ1 => wpX5_coefficient a1 a2 a3 ρ (fun r1 ρ1 => r = r1 ∧ Rel σ1 ρ1))) ∧
  (∀ (σ : CS) (ρ : RS), Rel σ ρ → ∀ a1 : Int32, wpX4_word a1 σ (fun r σ1 => wpX5_word a1 ρ (fun r1 ρ1 => r = r1 ∧ Rel σ1 ρ1))) ∧
  (∀ (σ : CS) (ρ : RS), Rel σ ρ → ∀ a1 a2 a3 a4 : Int32, wpX4_add a1 a2 a3 a4 σ (fun r σ1 => wpX5_add a1 a2 a3 a4 ρ (fun r1 ρ1 => r = r1 ∧ Rel σ1 ρ1))) ∧
  (∀ (σ : CS) (ρ : RS), Rel σ ρ → ∀ a1 a2 a3 : Int32, wpX4_multiply a1 a2 a3 σ (fun r σ1 => wpX5_multiply a1 a2 a3 ρ (fun r1 ρ1 => r = r1 ∧ Rel σ1 ρ1))) ∧
  (∀ (σ : CS) (ρ : RS), Rel σ ρ → ∀ a1 a2 : Int32, wpX4_derive a1 a2 σ (fun r σ1 => wpX5_derive a1 a2 ρ (fun r1 ρ1 => r = r1 ∧ Rel σ1 ρ1))) ∧
  (∀ (σ : CS) (ρ : RS), Rel σ ρ → ∀ a1 a2 a3 : Int32, wpX4_shift a1 a2 a3 σ (fun r σ1 => wpX5_shift a1 a2 a3 ρ (fun r1 ρ1 => r = r1 ∧ Rel σ1 ρ1))) ∧
  (∀ (σ : CS) (ρ : RS), Rel σ ρ → ∀ a1 a2 a3 : Int32, wpX4_remainder a1 a2 a3 σ (fun r σ1 => wpX5_remainder a1 a2 a3 ρ (fun r1 ρ1 => r = r1 ∧ Rel σ1 ρ1))) ∧
  (∀ (σ : CS) (ρ : RS), Rel σ ρ → ∀ a1 a2 a3 : Int32, wpX4_quotient a1 a2 a3 σ (fun r σ1 => wpX5_quotient a1 a2 a3 ρ (fun r1 ρ1 => r = r1 ∧ Rel σ1 ρ1))) ∧
  (∀ (σ : CS) (ρ : RS), Rel σ ρ → ∀ a1 a2 a3 : Int32, wpX4_gcd a1 a2 a3 σ (fun r σ1 => wpX5_gcd a1 a2 a3 ρ (fun r1 ρ1 => r = r1 ∧ Rel σ1 ρ1))) ∧
  (∀ (σ : CS) (ρ : RS), Rel σ ρ → ∀ a1 a2 : Int32, wpX4_once a1 a2 σ (fun r σ1 => wpX5_once a1 a2 ρ (fun r1 ρ1 => r = r1 ∧ Rel σ1 ρ1))) ∧
  (∀ (σ : CS) (ρ : RS), Rel σ ρ → ∀ a1 a2 a3 : Int32, wpX4_sign a1 a2 a3 σ (fun r σ1 => wpX5_sign a1 a2 a3 ρ (fun r1 ρ1 => r = r1 ∧ Rel σ1 ρ1))) ∧
  (∀ (σ : CS) (ρ : RS), Rel σ ρ → ∀ a1 a2 a3 : Int32, wpX4_roots a1 a2 a3 σ (fun r σ1 => wpX5_roots a1 a2 a3 ρ (fun r1 ρ1 => r = r1 ∧ Rel σ1 ρ1))) ∧
  (∀ (σ : CS) (ρ : RS), Rel σ ρ → ∀ a1 : Int32, wpX4_allRoots a1 σ (fun r σ1 => wpX5_allRoots a1 ρ (fun r1 ρ1 => r = r1 ∧ Rel σ1 ρ1))) ∧
  (∀ (σ : CS) (ρ : RS), Rel σ ρ → ∀ a1 a2 : Int32, wpX4_place a1 a2 σ (fun r σ1 => wpX5_place a1 a2 ρ (fun r1 ρ1 => r = r1 ∧ Rel σ1 ρ1))) ∧
  (∀ (σ : CS) (ρ : RS), Rel σ ρ → ∀ a1 : Int32, wpX4_degree a1 σ (fun r σ1 => wpX5_degree a1 ρ (fun r1 ρ1 => r = r1 ∧ Rel σ1 ρ1))) ∧
  (∀ (σ : CS) (ρ : RS), Rel σ ρ → ∀ a1 a2 : Int32, wpX4_signOf a1 a2 σ (fun r σ1 => wpX5_signOf a1 a2 ρ (fun r1 ρ1 => r = r1 ∧ Rel σ1 ρ1))) ∧
  (∀ (σ : CS) (ρ : RS), Rel σ ρ → ∀ a1 a2 : Int32, wpX4_words a1 a2 σ (fun r σ1 => wpX5_words a1 a2 ρ (fun r1 ρ1 => r = r1 ∧ Rel σ1 ρ1))) ∧
  (∀ (σ : CS) (ρ : RS), Rel σ ρ → ∀ a1 a2 a3 : Int32, wpX4_wordOf a1 a2 a3 σ (fun r σ1 => wpX5_wordOf a1 a2 a3 ρ (fun r1 ρ1 => r = r1 ∧ Rel σ1 ρ1))) ∧
  (∀ (σ : CS) (ρ : RS), Rel σ ρ → ∀ a1 a2 : Int32, wpX4_same a1 a2 σ (fun r σ1 => wpX5_same a1 a2 ρ (fun r1 ρ1 => r = r1 ∧ Rel σ1 ρ1)))
theorem wd_keep {D : va_G} {A : Nat → Prop} {T : Nat × va_E → Prop} {H H1 : Heap} (hw : wd D A T H) (hk : ∀ q : Nat, q < H.size → A q → H1[q]? = H[q]?) : wd D A T H1 := by
  obtain ⟨ws, hP, hD, hm⟩ := hw
  exact ⟨ws, hP.kept (fun k q h => hk q.1 (hP k q h).lt (hD.2 k q h)), hD, hm⟩
section LC
variable {p : Program} {l : Launch} {e : Env} {R : Room} {s : State} {m : MethodId} {args : Array Value} {below : List Frame} {meth : Method} {c : Code} {H : Heap} {locs : List Loc} {Q : State → Prop}
variable {cc : ByteArray} {pc : Nat} {ls : Array Slot} {rest : List Value} {D : va_G} {A A0 : Nat → Prop} {b : Nat} {tys : List (ClassId × FieldType)} {H0 : Heap} {T : Nat × va_E → Prop} {own : String} {nL cells slots : Nat}
variable {S : Type} {TT : S → Nat × va_E → Prop} {y : MethodName} {bytes : ByteArray} {maxL n index : Nat} {ret : Option FieldType} {rm : Room} {As st0 : List Value}
theorem l_cVi {post : Int32 → S → Prop} (X : cx p m meth c s args cc nL own D tys) (hsz : ls.size = nL) (hw : wd D A T H) (hS : va_S A0 H0 H locs) (hA : ∀ q, A q → A0 q) (hM : Met l y (Cond.code y bytes maxL ret :: wsA) rm (mPc D tys A T (.ref b :: As)) (va_Qi post (fun u t => wd D A (TT u) t.heap) A) 0 0 A) (hlink : Cond.methodLink own index y ∈ wsA) (hf : vfit y bytes maxL ret n) {ci : Nat} {fs : List Value} (hT : T (b, .inr (ci, fs))) {q : vw_C} (hc : vwCl[ci]? = some q) (hq : q.1 = y.cls) (hr : rfit rm R maxL) (hcs : cells ≤ R.cells ∧ slots ≤ R.slots) (hn : As.length = n) (hst : st0 = As.reverse ++ .ref b :: rest) (hro : (rest.map fun v => v.category).sum ≤ 8) (hdg : decode cc pc = .ok (.invokevirtual index, 3))
    (kk : ∀ (r : Int32) (u : S) (H1 : Heap) (locs1 : List Loc), post r u → wd D A (TT u) H1 → (∀ q : Nat, q < H.size → ¬ A q → H1[q]? = H[q]?) → va_S A0 H0 H1 locs1 → W p l e R s m args below meth c H1 locs1 cells slots Q (F0 m (pc + 3) ls (.int r :: rest))) : W p l e R s m args below meth c H locs cells slots Q (F0 m pc ls st0) := by
  obtain ⟨hx, hb, hml, hown, hts, hK, hlk⟩ := X
  obtain ⟨f1, f2, f3, f4, f5, f6, f7⟩ := hf
  obtain ⟨ws, hP, hD, hm⟩ := id hw
  obtain ⟨k0, hk0⟩ := hm _ hT
  have hrec := va_recv hK.1 hP hc hk0
  rw [hq] at hrec
  have run := va_runV (g := F0 m pc ls st0) (l := l) (p := p) (e := e) (below := below) (meth := meth) (locs := locs) (cells := cells) (slots := slots) (rest := rest) ⟨hx, hb, hml, hown, hts⟩ hM (cwV (R := R) n hts (good_V hlink f1 f2 f3 f4) rfl hr.1 hr.2.1 ⟨rfl, f5, f6, f7⟩ hr.2.2) ⟨mPc_blind, hrec, mPc_at hK hw⟩ rfl hn hsz hst (lv_room hro) hdg hcs
  exact va_calli run hS (fun q _ h => hA q h) (fun q h => hA q h) (fun r u t H1 locs1 ht hvm hp hB hz hk hS1 => kk r u H1 locs1 hp (wd_eq ht.symm hB) hk hS1)
theorem l_cVl {post : Int64 → S → Prop} (X : cx p m meth c s args cc nL own D tys) (hsz : ls.size = nL) (hw : wd D A T H) (hS : va_S A0 H0 H locs) (hA : ∀ q, A q → A0 q) (hM : Met l y (Cond.code y bytes maxL ret :: wsA) rm (mPc D tys A T (.ref b :: As)) (va_Ql post (fun u t => wd D A (TT u) t.heap) A) 0 0 A) (hlink : Cond.methodLink own index y ∈ wsA) (hf : vfit y bytes maxL ret n) {ci : Nat} {fs : List Value} (hT : T (b, .inr (ci, fs))) {q : vw_C} (hc : vwCl[ci]? = some q) (hq : q.1 = y.cls) (hr : rfit rm R maxL) (hcs : cells ≤ R.cells ∧ slots ≤ R.slots) (hn : As.length = n) (hst : st0 = As.reverse ++ .ref b :: rest) (hro : (rest.map fun v => v.category).sum ≤ 8) (hdg : decode cc pc = .ok (.invokevirtual index, 3))
    (kk : ∀ (r : Int64) (u : S) (H1 : Heap) (locs1 : List Loc), post r u → wd D A (TT u) H1 → (∀ q : Nat, q < H.size → ¬ A q → H1[q]? = H[q]?) → va_S A0 H0 H1 locs1 → W p l e R s m args below meth c H1 locs1 cells slots Q (F0 m (pc + 3) ls (.long r :: rest))) : W p l e R s m args below meth c H locs cells slots Q (F0 m pc ls st0) := by
  obtain ⟨hx, hb, hml, hown, hts, hK, hlk⟩ := X
  obtain ⟨f1, f2, f3, f4, f5, f6, f7⟩ := hf
  obtain ⟨ws, hP, hD, hm⟩ := id hw
  obtain ⟨k0, hk0⟩ := hm _ hT
  have hrec := va_recv hK.1 hP hc hk0
  rw [hq] at hrec
  have run := va_runV (g := F0 m pc ls st0) (l := l) (p := p) (e := e) (below := below) (meth := meth) (locs := locs) (cells := cells) (slots := slots) (rest := rest) ⟨hx, hb, hml, hown, hts⟩ hM (cwV (R := R) n hts (good_V hlink f1 f2 f3 f4) rfl hr.1 hr.2.1 ⟨rfl, f5, f6, f7⟩ hr.2.2) ⟨mPc_blind, hrec, mPc_at hK hw⟩ rfl hn hsz hst (lv_room hro) hdg hcs
  exact va_calll run hS (fun q _ h => hA q h) (fun q h => hA q h) (fun r u t H1 locs1 ht hvm hp hB hz hk hS1 => kk r u H1 locs1 hp (wd_eq ht.symm hB) hk hS1)
end LC
set_option maxRecDepth 100000 in
set_option maxHeartbeats 4000000 in
theorem law_c0 {p : Program} {l : Launch} {e : Env} {s : State} {m : MethodId} {below : List Frame} {meth : Method} {c : Code} {D : va_G} {g : mG} {Ac Ar : Nat → Prop} {b L : Nat} {xs : Nat → Int32} {Rel : CS → RS → Prop} (hg : inj g) (hL : L ≤ 2560) (hc0 : ∀ q, Ac q → s.heap.size ≤ q) (hr0 : ∀ q, Ar q → s.heap.size ≤ q) (hdj : ∀ q, Ac q → ¬ Ar q) (X : cx p m meth c s #[Value.ref b] cL_law 4 RL D (tyG g)) (hr : meth.sig.returnType = ret) (hX : va_X b L xs s s.heap) (hbl : b < s.heap.size) (hst : LawStep Rel) (σ : CS) (ρ : RS) (hRel : Rel σ ρ) (i3 : Int32) (hi1 : vp_in (i3 + (1 : Int32)) L) (hi2 : vp_in (i3 + (2 : Int32)) L) (hi3 : vp_in (i3 + (3 : Int32)) L) (hi4 : vp_in (i3 + (4 : Int32)) L)
    (hend : ∀ (σ : CS) (ρ : RS) (H : Heap) (locs : List Loc) (ls : Array Slot), Rel σ ρ → wd D Ac (cT g σ) H → wd D Ar (rT g ρ) H → va_S (fun q : Nat => s.heap.size ≤ q) s.heap H locs → lv_has ls 4 [(0, .ref b), (1, .ref (g.1 2010)), (2, .ref (g.1 5000)), (3, .int i3)] → W p l e room_1 s m #[Value.ref b] below meth c H locs 600000 7302250 (lw_Z below #[Value.ref b] s) (F0 m 848 ls []))
    (H : Heap) (locs : List Loc) (ls : Array Slot) (hw : wd D Ac (cT g σ) H) (hv : wd D Ar (rT g ρ) H) (hS : va_S (fun q : Nat => s.heap.size ≤ q) s.heap H locs) (hl : lv_has ls 4 [(0, .ref b), (1, .ref (g.1 2010)), (2, .ref (g.1 5000)), (3, .int i3)]) : W p l e room_1 s m #[Value.ref b] below meth c H locs 600000 7302250 (lw_Z below #[Value.ref b] s) (F0 m 124 ls []) := by
  obtain ⟨hx, hb, hml, hown, hts, hK, hlk⟩ := id X
  have hbA : ¬ (fun q : Nat => s.heap.size ≤ q) b := Nat.not_le.mpr hbl
  refine lv_aload_n hx hb dL_law_124 rfl (lv_at hl 1 rfl) ?_
  refine lv_aload_n hx hb dL_law_125 rfl (lv_at hl 0 rfl) ?_
  refine lv_iload_n hx hb dL_law_126 rfl (lv_at hl 3 rfl) ?_
  refine lv_iconst (v := (1 : Int32)) hx hb dL_law_127 (by decide) ?_
  refine lv_iadd hx hb dL_law_128 ?_
  refine va_sld hx hb hX hbl hbA hS hi1 dL_law_129 ?_
  refine lv_aload_n hx hb dL_law_130 rfl (lv_at hl 0 rfl) ?_
  refine lv_iload_n hx hb dL_law_131 rfl (lv_at hl 3 rfl) ?_
  refine lv_iconst (v := (2 : Int32)) hx hb dL_law_132 (by decide) ?_
  refine lv_iadd hx hb dL_law_133 ?_
  refine va_sld hx hb hX hbl hbA hS hi2 dL_law_134 ?_
  refine lv_aload_n hx hb dL_law_135 rfl (lv_at hl 0 rfl) ?_
  refine lv_iload_n hx hb dL_law_136 rfl (lv_at hl 3 rfl) ?_
  refine lv_iconst (v := (3 : Int32)) hx hb dL_law_137 (by decide) ?_
  refine lv_iadd hx hb dL_law_138 ?_
  refine va_sld hx hb hX hbl hbA hS hi3 dL_law_139 ?_
  have h := hst.1 σ ρ hRel (xs (i3 + (1 : Int32)).toNatClampNeg) (xs (i3 + (2 : Int32)).toNatClampNeg) (xs (i3 + (3 : Int32)).toNatClampNeg)
  refine l_cVi (TT := cT g) (As := [.int (xs (i3 + (1 : Int32)).toNatClampNeg), .int (xs (i3 + (2 : Int32)).toNatClampNeg), .int (xs (i3 + (3 : Int32)).toNatClampNeg)]) (rest := []) X hl.1 hw hS hc0 (kX4_coefficient hg h) mw_83 fX4_coefficient tG rfl rfl ⟨rfl, rfl, Nat.le_of_ble_eq_true rfl, Nat.le_of_ble_eq_true rfl⟩ ⟨Nat.le_of_ble_eq_true rfl, Nat.le_of_ble_eq_true rfl⟩ rfl rfl (Nat.le_of_ble_eq_true rfl) dL_law_140 (fun r σ1 H1 locs h hw hk hS => ?_)
  replace hv := wd_keep hv (fun q hq1 hq2 => hk q hq1 (fun z => hdj q z hq2))
  clear hk
  generalize H1 = H at hw hv hS ⊢
  refine lv_aload_n hx hb dL_law_143 rfl (lv_at hl 2 rfl) ?_
  refine lv_aload_n hx hb dL_law_144 rfl (lv_at hl 0 rfl) ?_
  refine lv_iload_n hx hb dL_law_145 rfl (lv_at hl 3 rfl) ?_
  refine lv_iconst (v := (1 : Int32)) hx hb dL_law_146 (by decide) ?_
  refine lv_iadd hx hb dL_law_147 ?_
  refine va_sld hx hb hX hbl hbA hS hi1 dL_law_148 ?_
  refine lv_aload_n hx hb dL_law_149 rfl (lv_at hl 0 rfl) ?_
  refine lv_iload_n hx hb dL_law_150 rfl (lv_at hl 3 rfl) ?_
  refine lv_iconst (v := (2 : Int32)) hx hb dL_law_151 (by decide) ?_
  refine lv_iadd hx hb dL_law_152 ?_
  refine va_sld hx hb hX hbl hbA hS hi2 dL_law_153 ?_
  refine lv_aload_n hx hb dL_law_154 rfl (lv_at hl 0 rfl) ?_
  refine lv_iload_n hx hb dL_law_155 rfl (lv_at hl 3 rfl) ?_
  refine lv_iconst (v := (3 : Int32)) hx hb dL_law_156 (by decide) ?_
  refine lv_iadd hx hb dL_law_157 ?_
  refine va_sld hx hb hX hbl hbA hS hi3 dL_law_158 ?_
  refine l_cVi (TT := rT g) (As := [.int (xs (i3 + (1 : Int32)).toNatClampNeg), .int (xs (i3 + (2 : Int32)).toNatClampNeg), .int (xs (i3 + (3 : Int32)).toNatClampNeg)]) (rest := [.int r]) X hl.1 hv hS hr0 (kX5_coefficient hg h) mw_106 fX5_coefficient qM rfl rfl ⟨rfl, rfl, Nat.le_of_ble_eq_true rfl, Nat.le_of_ble_eq_true rfl⟩ ⟨Nat.le_of_ble_eq_true rfl, Nat.le_of_ble_eq_true rfl⟩ rfl rfl (Nat.le_of_ble_eq_true rfl) dL_law_159 (fun r1 ρ1 H1 locs h hv hk hS => ?_)
  replace hw := wd_keep hw (fun q hq1 hq2 => hk q hq1 (hdj q hq2))
  clear hk
  generalize H1 = H at hw hv hS ⊢
  refine lv_icmp_eq (tgt := 848) hx hb dL_law_162 (by decide) (fun hc => ?_) (fun hc => ?_)
  ·
    exact hend σ1 ρ1 H locs ls h.2 hw hv hS hl
  · exact absurd h.1 hc
set_option maxRecDepth 100000 in
set_option maxHeartbeats 4000000 in
theorem law_c1 {p : Program} {l : Launch} {e : Env} {s : State} {m : MethodId} {below : List Frame} {meth : Method} {c : Code} {D : va_G} {g : mG} {Ac Ar : Nat → Prop} {b L : Nat} {xs : Nat → Int32} {Rel : CS → RS → Prop} (hg : inj g) (hL : L ≤ 2560) (hc0 : ∀ q, Ac q → s.heap.size ≤ q) (hr0 : ∀ q, Ar q → s.heap.size ≤ q) (hdj : ∀ q, Ac q → ¬ Ar q) (X : cx p m meth c s #[Value.ref b] cL_law 4 RL D (tyG g)) (hr : meth.sig.returnType = ret) (hX : va_X b L xs s s.heap) (hbl : b < s.heap.size) (hst : LawStep Rel) (σ : CS) (ρ : RS) (hRel : Rel σ ρ) (i3 : Int32) (hi1 : vp_in (i3 + (1 : Int32)) L) (hi2 : vp_in (i3 + (2 : Int32)) L) (hi3 : vp_in (i3 + (3 : Int32)) L) (hi4 : vp_in (i3 + (4 : Int32)) L)
    (hend : ∀ (σ : CS) (ρ : RS) (H : Heap) (locs : List Loc) (ls : Array Slot), Rel σ ρ → wd D Ac (cT g σ) H → wd D Ar (rT g ρ) H → va_S (fun q : Nat => s.heap.size ≤ q) s.heap H locs → lv_has ls 4 [(0, .ref b), (1, .ref (g.1 2010)), (2, .ref (g.1 5000)), (3, .int i3)] → W p l e room_1 s m #[Value.ref b] below meth c H locs 600000 7302250 (lw_Z below #[Value.ref b] s) (F0 m 848 ls []))
    (H : Heap) (locs : List Loc) (ls : Array Slot) (hw : wd D Ac (cT g σ) H) (hv : wd D Ar (rT g ρ) H) (hS : va_S (fun q : Nat => s.heap.size ≤ q) s.heap H locs) (hl : lv_has ls 4 [(0, .ref b), (1, .ref (g.1 2010)), (2, .ref (g.1 5000)), (3, .int i3)]) : W p l e room_1 s m #[Value.ref b] below meth c H locs 600000 7302250 (lw_Z below #[Value.ref b] s) (F0 m 167 ls []) := by
  obtain ⟨hx, hb, hml, hown, hts, hK, hlk⟩ := id X
  have hbA : ¬ (fun q : Nat => s.heap.size ≤ q) b := Nat.not_le.mpr hbl
  refine lv_aload_n hx hb dL_law_167 rfl (lv_at hl 1 rfl) ?_
  refine lv_aload_n hx hb dL_law_168 rfl (lv_at hl 0 rfl) ?_
  refine lv_iload_n hx hb dL_law_169 rfl (lv_at hl 3 rfl) ?_
  refine lv_iconst (v := (1 : Int32)) hx hb dL_law_170 (by decide) ?_
  refine lv_iadd hx hb dL_law_171 ?_
  refine va_sld hx hb hX hbl hbA hS hi1 dL_law_172 ?_
  have h := hst.2.1 σ ρ hRel (xs (i3 + (1 : Int32)).toNatClampNeg)
  refine l_cVi (TT := cT g) (As := [.int (xs (i3 + (1 : Int32)).toNatClampNeg)]) (rest := []) X hl.1 hw hS hc0 (kX4_word hg h) mw_130 fX4_word tG rfl rfl ⟨rfl, rfl, Nat.le_of_ble_eq_true rfl, Nat.le_of_ble_eq_true rfl⟩ ⟨Nat.le_of_ble_eq_true rfl, Nat.le_of_ble_eq_true rfl⟩ rfl rfl (Nat.le_of_ble_eq_true rfl) dL_law_173 (fun r σ1 H1 locs h hw hk hS => ?_)
  replace hv := wd_keep hv (fun q hq1 hq2 => hk q hq1 (fun z => hdj q z hq2))
  clear hk
  generalize H1 = H at hw hv hS ⊢
  refine lv_aload_n hx hb dL_law_176 rfl (lv_at hl 2 rfl) ?_
  refine lv_aload_n hx hb dL_law_177 rfl (lv_at hl 0 rfl) ?_
  refine lv_iload_n hx hb dL_law_178 rfl (lv_at hl 3 rfl) ?_
  refine lv_iconst (v := (1 : Int32)) hx hb dL_law_179 (by decide) ?_
  refine lv_iadd hx hb dL_law_180 ?_
  refine va_sld hx hb hX hbl hbA hS hi1 dL_law_181 ?_
  refine l_cVi (TT := rT g) (As := [.int (xs (i3 + (1 : Int32)).toNatClampNeg)]) (rest := [.int r]) X hl.1 hv hS hr0 (kX5_word hg h) mw_138 fX5_word qM rfl rfl ⟨rfl, rfl, Nat.le_of_ble_eq_true rfl, Nat.le_of_ble_eq_true rfl⟩ ⟨Nat.le_of_ble_eq_true rfl, Nat.le_of_ble_eq_true rfl⟩ rfl rfl (Nat.le_of_ble_eq_true rfl) dL_law_182 (fun r1 ρ1 H1 locs h hv hk hS => ?_)
  replace hw := wd_keep hw (fun q hq1 hq2 => hk q hq1 (hdj q hq2))
  clear hk
  generalize H1 = H at hw hv hS ⊢
  refine lv_icmp_eq (tgt := 848) hx hb dL_law_185 (by decide) (fun hc => ?_) (fun hc => ?_)
  ·
    exact hend σ1 ρ1 H locs ls h.2 hw hv hS hl
  · exact absurd h.1 hc
set_option maxRecDepth 100000 in
set_option maxHeartbeats 4000000 in
theorem law_c2 {p : Program} {l : Launch} {e : Env} {s : State} {m : MethodId} {below : List Frame} {meth : Method} {c : Code} {D : va_G} {g : mG} {Ac Ar : Nat → Prop} {b L : Nat} {xs : Nat → Int32} {Rel : CS → RS → Prop} (hg : inj g) (hL : L ≤ 2560) (hc0 : ∀ q, Ac q → s.heap.size ≤ q) (hr0 : ∀ q, Ar q → s.heap.size ≤ q) (hdj : ∀ q, Ac q → ¬ Ar q) (X : cx p m meth c s #[Value.ref b] cL_law 4 RL D (tyG g)) (hr : meth.sig.returnType = ret) (hX : va_X b L xs s s.heap) (hbl : b < s.heap.size) (hst : LawStep Rel) (σ : CS) (ρ : RS) (hRel : Rel σ ρ) (i3 : Int32) (hi1 : vp_in (i3 + (1 : Int32)) L) (hi2 : vp_in (i3 + (2 : Int32)) L) (hi3 : vp_in (i3 + (3 : Int32)) L) (hi4 : vp_in (i3 + (4 : Int32)) L)
    (hend : ∀ (σ : CS) (ρ : RS) (H : Heap) (locs : List Loc) (ls : Array Slot), Rel σ ρ → wd D Ac (cT g σ) H → wd D Ar (rT g ρ) H → va_S (fun q : Nat => s.heap.size ≤ q) s.heap H locs → lv_has ls 4 [(0, .ref b), (1, .ref (g.1 2010)), (2, .ref (g.1 5000)), (3, .int i3)] → W p l e room_1 s m #[Value.ref b] below meth c H locs 600000 7302250 (lw_Z below #[Value.ref b] s) (F0 m 848 ls []))
    (H : Heap) (locs : List Loc) (ls : Array Slot) (hw : wd D Ac (cT g σ) H) (hv : wd D Ar (rT g ρ) H) (hS : va_S (fun q : Nat => s.heap.size ≤ q) s.heap H locs) (hl : lv_has ls 4 [(0, .ref b), (1, .ref (g.1 2010)), (2, .ref (g.1 5000)), (3, .int i3)]) : W p l e room_1 s m #[Value.ref b] below meth c H locs 600000 7302250 (lw_Z below #[Value.ref b] s) (F0 m 190 ls []) := by
  obtain ⟨hx, hb, hml, hown, hts, hK, hlk⟩ := id X
  have hbA : ¬ (fun q : Nat => s.heap.size ≤ q) b := Nat.not_le.mpr hbl
  refine lv_aload_n hx hb dL_law_190 rfl (lv_at hl 1 rfl) ?_
  refine lv_aload_n hx hb dL_law_191 rfl (lv_at hl 0 rfl) ?_
  refine lv_iload_n hx hb dL_law_192 rfl (lv_at hl 3 rfl) ?_
  refine lv_iconst (v := (1 : Int32)) hx hb dL_law_193 (by decide) ?_
  refine lv_iadd hx hb dL_law_194 ?_
  refine va_sld hx hb hX hbl hbA hS hi1 dL_law_195 ?_
  refine lv_aload_n hx hb dL_law_196 rfl (lv_at hl 0 rfl) ?_
  refine lv_iload_n hx hb dL_law_197 rfl (lv_at hl 3 rfl) ?_
  refine lv_iconst (v := (2 : Int32)) hx hb dL_law_198 (by decide) ?_
  refine lv_iadd hx hb dL_law_199 ?_
  refine va_sld hx hb hX hbl hbA hS hi2 dL_law_200 ?_
  refine lv_aload_n hx hb dL_law_201 rfl (lv_at hl 0 rfl) ?_
  refine lv_iload_n hx hb dL_law_202 rfl (lv_at hl 3 rfl) ?_
  refine lv_iconst (v := (3 : Int32)) hx hb dL_law_203 (by decide) ?_
  refine lv_iadd hx hb dL_law_204 ?_
  refine va_sld hx hb hX hbl hbA hS hi3 dL_law_205 ?_
  refine lv_aload_n hx hb dL_law_206 rfl (lv_at hl 0 rfl) ?_
  refine lv_iload_n hx hb dL_law_207 rfl (lv_at hl 3 rfl) ?_
  refine lv_iconst (v := (4 : Int32)) hx hb dL_law_208 (by decide) ?_
  refine lv_iadd hx hb dL_law_209 ?_
  refine va_sld hx hb hX hbl hbA hS hi4 dL_law_210 ?_
  refine lv_if_eq (tgt := 218) hx hb dL_law_211 (by decide) (fun hc => ?_) (fun hc => ?_)
  · have hb4 := hc
    refine lv_iconst (v := (0 : Int32)) hx hb dL_law_218 (by decide) ?_
    have h := hst.2.2.1 σ ρ hRel (xs (i3 + (1 : Int32)).toNatClampNeg) (xs (i3 + (2 : Int32)).toNatClampNeg) (xs (i3 + (3 : Int32)).toNatClampNeg) (0 : Int32)
    refine l_cVi (TT := cT g) (As := [.int (xs (i3 + (1 : Int32)).toNatClampNeg), .int (xs (i3 + (2 : Int32)).toNatClampNeg), .int (xs (i3 + (3 : Int32)).toNatClampNeg), .int (0 : Int32)]) (rest := []) X hl.1 hw hS hc0 (kX4_add hg h) mw_167 fX4_add tG rfl rfl ⟨rfl, rfl, Nat.le_of_ble_eq_true rfl, Nat.le_of_ble_eq_true rfl⟩ ⟨Nat.le_of_ble_eq_true rfl, Nat.le_of_ble_eq_true rfl⟩ rfl rfl (Nat.le_of_ble_eq_true rfl) dL_law_219 (fun r σ1 H1 locs h hw hk hS => ?_)
    replace hv := wd_keep hv (fun q hq1 hq2 => hk q hq1 (fun z => hdj q z hq2))
    clear hk
    generalize H1 = H at hw hv hS ⊢
    refine lv_aload_n hx hb dL_law_222 rfl (lv_at hl 2 rfl) ?_
    refine lv_aload_n hx hb dL_law_223 rfl (lv_at hl 0 rfl) ?_
    refine lv_iload_n hx hb dL_law_224 rfl (lv_at hl 3 rfl) ?_
    refine lv_iconst (v := (1 : Int32)) hx hb dL_law_225 (by decide) ?_
    refine lv_iadd hx hb dL_law_226 ?_
    refine va_sld hx hb hX hbl hbA hS hi1 dL_law_227 ?_
    refine lv_aload_n hx hb dL_law_228 rfl (lv_at hl 0 rfl) ?_
    refine lv_iload_n hx hb dL_law_229 rfl (lv_at hl 3 rfl) ?_
    refine lv_iconst (v := (2 : Int32)) hx hb dL_law_230 (by decide) ?_
    refine lv_iadd hx hb dL_law_231 ?_
    refine va_sld hx hb hX hbl hbA hS hi2 dL_law_232 ?_
    refine lv_aload_n hx hb dL_law_233 rfl (lv_at hl 0 rfl) ?_
    refine lv_iload_n hx hb dL_law_234 rfl (lv_at hl 3 rfl) ?_
    refine lv_iconst (v := (3 : Int32)) hx hb dL_law_235 (by decide) ?_
    refine lv_iadd hx hb dL_law_236 ?_
    refine va_sld hx hb hX hbl hbA hS hi3 dL_law_237 ?_
    refine lv_aload_n hx hb dL_law_238 rfl (lv_at hl 0 rfl) ?_
    refine lv_iload_n hx hb dL_law_239 rfl (lv_at hl 3 rfl) ?_
    refine lv_iconst (v := (4 : Int32)) hx hb dL_law_240 (by decide) ?_
    refine lv_iadd hx hb dL_law_241 ?_
    refine va_sld hx hb hX hbl hbA hS hi4 dL_law_242 ?_
    refine lv_if_eq (tgt := 250) hx hb dL_law_243 (by decide) (fun hc => ?_) (fun hc => ?_)
    ·
      refine lv_iconst (v := (0 : Int32)) hx hb dL_law_250 (by decide) ?_
      refine l_cVi (TT := rT g) (As := [.int (xs (i3 + (1 : Int32)).toNatClampNeg), .int (xs (i3 + (2 : Int32)).toNatClampNeg), .int (xs (i3 + (3 : Int32)).toNatClampNeg), .int (0 : Int32)]) (rest := [.int r]) X hl.1 hv hS hr0 (kX5_add hg h) mw_227 fX5_add qM rfl rfl ⟨rfl, rfl, Nat.le_of_ble_eq_true rfl, Nat.le_of_ble_eq_true rfl⟩ ⟨Nat.le_of_ble_eq_true rfl, Nat.le_of_ble_eq_true rfl⟩ rfl rfl (Nat.le_of_ble_eq_true rfl) dL_law_251 (fun r1 ρ1 H1 locs h hv hk hS => ?_)
      replace hw := wd_keep hw (fun q hq1 hq2 => hk q hq1 (hdj q hq2))
      clear hk
      generalize H1 = H at hw hv hS ⊢
      refine lv_icmp_eq (tgt := 848) hx hb dL_law_254 (by decide) (fun hc => ?_) (fun hc => ?_)
      ·
        exact hend σ1 ρ1 H locs ls h.2 hw hv hS hl
      · exact absurd h.1 hc
    · exact absurd hb4 hc
  · have hb4 := hc
    refine lv_iconst (v := (1 : Int32)) hx hb dL_law_214 (by decide) ?_
    refine lv_goto (tgt := 219) hx hb dL_law_215 (by decide) ?_
    have h := hst.2.2.1 σ ρ hRel (xs (i3 + (1 : Int32)).toNatClampNeg) (xs (i3 + (2 : Int32)).toNatClampNeg) (xs (i3 + (3 : Int32)).toNatClampNeg) (1 : Int32)
    refine l_cVi (TT := cT g) (As := [.int (xs (i3 + (1 : Int32)).toNatClampNeg), .int (xs (i3 + (2 : Int32)).toNatClampNeg), .int (xs (i3 + (3 : Int32)).toNatClampNeg), .int (1 : Int32)]) (rest := []) X hl.1 hw hS hc0 (kX4_add hg h) mw_167 fX4_add tG rfl rfl ⟨rfl, rfl, Nat.le_of_ble_eq_true rfl, Nat.le_of_ble_eq_true rfl⟩ ⟨Nat.le_of_ble_eq_true rfl, Nat.le_of_ble_eq_true rfl⟩ rfl rfl (Nat.le_of_ble_eq_true rfl) dL_law_219 (fun r σ1 H1 locs h hw hk hS => ?_)
    replace hv := wd_keep hv (fun q hq1 hq2 => hk q hq1 (fun z => hdj q z hq2))
    clear hk
    generalize H1 = H at hw hv hS ⊢
    refine lv_aload_n hx hb dL_law_222 rfl (lv_at hl 2 rfl) ?_
    refine lv_aload_n hx hb dL_law_223 rfl (lv_at hl 0 rfl) ?_
    refine lv_iload_n hx hb dL_law_224 rfl (lv_at hl 3 rfl) ?_
    refine lv_iconst (v := (1 : Int32)) hx hb dL_law_225 (by decide) ?_
    refine lv_iadd hx hb dL_law_226 ?_
    refine va_sld hx hb hX hbl hbA hS hi1 dL_law_227 ?_
    refine lv_aload_n hx hb dL_law_228 rfl (lv_at hl 0 rfl) ?_
    refine lv_iload_n hx hb dL_law_229 rfl (lv_at hl 3 rfl) ?_
    refine lv_iconst (v := (2 : Int32)) hx hb dL_law_230 (by decide) ?_
    refine lv_iadd hx hb dL_law_231 ?_
    refine va_sld hx hb hX hbl hbA hS hi2 dL_law_232 ?_
    refine lv_aload_n hx hb dL_law_233 rfl (lv_at hl 0 rfl) ?_
    refine lv_iload_n hx hb dL_law_234 rfl (lv_at hl 3 rfl) ?_
    refine lv_iconst (v := (3 : Int32)) hx hb dL_law_235 (by decide) ?_
    refine lv_iadd hx hb dL_law_236 ?_
    refine va_sld hx hb hX hbl hbA hS hi3 dL_law_237 ?_
    refine lv_aload_n hx hb dL_law_238 rfl (lv_at hl 0 rfl) ?_
    refine lv_iload_n hx hb dL_law_239 rfl (lv_at hl 3 rfl) ?_
    refine lv_iconst (v := (4 : Int32)) hx hb dL_law_240 (by decide) ?_
    refine lv_iadd hx hb dL_law_241 ?_
    refine va_sld hx hb hX hbl hbA hS hi4 dL_law_242 ?_
    refine lv_if_eq (tgt := 250) hx hb dL_law_243 (by decide) (fun hc => ?_) (fun hc => ?_)
    · exact absurd hc hb4
    ·
      refine lv_iconst (v := (1 : Int32)) hx hb dL_law_246 (by decide) ?_
      refine lv_goto (tgt := 251) hx hb dL_law_247 (by decide) ?_
      refine l_cVi (TT := rT g) (As := [.int (xs (i3 + (1 : Int32)).toNatClampNeg), .int (xs (i3 + (2 : Int32)).toNatClampNeg), .int (xs (i3 + (3 : Int32)).toNatClampNeg), .int (1 : Int32)]) (rest := [.int r]) X hl.1 hv hS hr0 (kX5_add hg h) mw_227 fX5_add qM rfl rfl ⟨rfl, rfl, Nat.le_of_ble_eq_true rfl, Nat.le_of_ble_eq_true rfl⟩ ⟨Nat.le_of_ble_eq_true rfl, Nat.le_of_ble_eq_true rfl⟩ rfl rfl (Nat.le_of_ble_eq_true rfl) dL_law_251 (fun r1 ρ1 H1 locs h hv hk hS => ?_)
      replace hw := wd_keep hw (fun q hq1 hq2 => hk q hq1 (hdj q hq2))
      clear hk
      generalize H1 = H at hw hv hS ⊢
      refine lv_icmp_eq (tgt := 848) hx hb dL_law_254 (by decide) (fun hc => ?_) (fun hc => ?_)
      ·
        exact hend σ1 ρ1 H locs ls h.2 hw hv hS hl
      · exact absurd h.1 hc
set_option maxRecDepth 100000 in
set_option maxHeartbeats 4000000 in
theorem law_c3 {p : Program} {l : Launch} {e : Env} {s : State} {m : MethodId} {below : List Frame} {meth : Method} {c : Code} {D : va_G} {g : mG} {Ac Ar : Nat → Prop} {b L : Nat} {xs : Nat → Int32} {Rel : CS → RS → Prop} (hg : inj g) (hL : L ≤ 2560) (hc0 : ∀ q, Ac q → s.heap.size ≤ q) (hr0 : ∀ q, Ar q → s.heap.size ≤ q) (hdj : ∀ q, Ac q → ¬ Ar q) (X : cx p m meth c s #[Value.ref b] cL_law 4 RL D (tyG g)) (hr : meth.sig.returnType = ret) (hX : va_X b L xs s s.heap) (hbl : b < s.heap.size) (hst : LawStep Rel) (σ : CS) (ρ : RS) (hRel : Rel σ ρ) (i3 : Int32) (hi1 : vp_in (i3 + (1 : Int32)) L) (hi2 : vp_in (i3 + (2 : Int32)) L) (hi3 : vp_in (i3 + (3 : Int32)) L) (hi4 : vp_in (i3 + (4 : Int32)) L)
    (hend : ∀ (σ : CS) (ρ : RS) (H : Heap) (locs : List Loc) (ls : Array Slot), Rel σ ρ → wd D Ac (cT g σ) H → wd D Ar (rT g ρ) H → va_S (fun q : Nat => s.heap.size ≤ q) s.heap H locs → lv_has ls 4 [(0, .ref b), (1, .ref (g.1 2010)), (2, .ref (g.1 5000)), (3, .int i3)] → W p l e room_1 s m #[Value.ref b] below meth c H locs 600000 7302250 (lw_Z below #[Value.ref b] s) (F0 m 848 ls []))
    (H : Heap) (locs : List Loc) (ls : Array Slot) (hw : wd D Ac (cT g σ) H) (hv : wd D Ar (rT g ρ) H) (hS : va_S (fun q : Nat => s.heap.size ≤ q) s.heap H locs) (hl : lv_has ls 4 [(0, .ref b), (1, .ref (g.1 2010)), (2, .ref (g.1 5000)), (3, .int i3)]) : W p l e room_1 s m #[Value.ref b] below meth c H locs 600000 7302250 (lw_Z below #[Value.ref b] s) (F0 m 259 ls []) := by
  obtain ⟨hx, hb, hml, hown, hts, hK, hlk⟩ := id X
  have hbA : ¬ (fun q : Nat => s.heap.size ≤ q) b := Nat.not_le.mpr hbl
  refine lv_aload_n hx hb dL_law_259 rfl (lv_at hl 1 rfl) ?_
  refine lv_aload_n hx hb dL_law_260 rfl (lv_at hl 0 rfl) ?_
  refine lv_iload_n hx hb dL_law_261 rfl (lv_at hl 3 rfl) ?_
  refine lv_iconst (v := (1 : Int32)) hx hb dL_law_262 (by decide) ?_
  refine lv_iadd hx hb dL_law_263 ?_
  refine va_sld hx hb hX hbl hbA hS hi1 dL_law_264 ?_
  refine lv_aload_n hx hb dL_law_265 rfl (lv_at hl 0 rfl) ?_
  refine lv_iload_n hx hb dL_law_266 rfl (lv_at hl 3 rfl) ?_
  refine lv_iconst (v := (2 : Int32)) hx hb dL_law_267 (by decide) ?_
  refine lv_iadd hx hb dL_law_268 ?_
  refine va_sld hx hb hX hbl hbA hS hi2 dL_law_269 ?_
  refine lv_aload_n hx hb dL_law_270 rfl (lv_at hl 0 rfl) ?_
  refine lv_iload_n hx hb dL_law_271 rfl (lv_at hl 3 rfl) ?_
  refine lv_iconst (v := (3 : Int32)) hx hb dL_law_272 (by decide) ?_
  refine lv_iadd hx hb dL_law_273 ?_
  refine va_sld hx hb hX hbl hbA hS hi3 dL_law_274 ?_
  have h := hst.2.2.2.1 σ ρ hRel (xs (i3 + (1 : Int32)).toNatClampNeg) (xs (i3 + (2 : Int32)).toNatClampNeg) (xs (i3 + (3 : Int32)).toNatClampNeg)
  refine l_cVi (TT := cT g) (As := [.int (xs (i3 + (1 : Int32)).toNatClampNeg), .int (xs (i3 + (2 : Int32)).toNatClampNeg), .int (xs (i3 + (3 : Int32)).toNatClampNeg)]) (rest := []) X hl.1 hw hS hc0 (kX4_multiply hg h) mw_243 fX4_multiply tG rfl rfl ⟨rfl, rfl, Nat.le_of_ble_eq_true rfl, Nat.le_of_ble_eq_true rfl⟩ ⟨Nat.le_of_ble_eq_true rfl, Nat.le_of_ble_eq_true rfl⟩ rfl rfl (Nat.le_of_ble_eq_true rfl) dL_law_275 (fun r σ1 H1 locs h hw hk hS => ?_)
  replace hv := wd_keep hv (fun q hq1 hq2 => hk q hq1 (fun z => hdj q z hq2))
  clear hk
  generalize H1 = H at hw hv hS ⊢
  refine lv_aload_n hx hb dL_law_278 rfl (lv_at hl 2 rfl) ?_
  refine lv_aload_n hx hb dL_law_279 rfl (lv_at hl 0 rfl) ?_
  refine lv_iload_n hx hb dL_law_280 rfl (lv_at hl 3 rfl) ?_
  refine lv_iconst (v := (1 : Int32)) hx hb dL_law_281 (by decide) ?_
  refine lv_iadd hx hb dL_law_282 ?_
  refine va_sld hx hb hX hbl hbA hS hi1 dL_law_283 ?_
  refine lv_aload_n hx hb dL_law_284 rfl (lv_at hl 0 rfl) ?_
  refine lv_iload_n hx hb dL_law_285 rfl (lv_at hl 3 rfl) ?_
  refine lv_iconst (v := (2 : Int32)) hx hb dL_law_286 (by decide) ?_
  refine lv_iadd hx hb dL_law_287 ?_
  refine va_sld hx hb hX hbl hbA hS hi2 dL_law_288 ?_
  refine lv_aload_n hx hb dL_law_289 rfl (lv_at hl 0 rfl) ?_
  refine lv_iload_n hx hb dL_law_290 rfl (lv_at hl 3 rfl) ?_
  refine lv_iconst (v := (3 : Int32)) hx hb dL_law_291 (by decide) ?_
  refine lv_iadd hx hb dL_law_292 ?_
  refine va_sld hx hb hX hbl hbA hS hi3 dL_law_293 ?_
  refine l_cVi (TT := rT g) (As := [.int (xs (i3 + (1 : Int32)).toNatClampNeg), .int (xs (i3 + (2 : Int32)).toNatClampNeg), .int (xs (i3 + (3 : Int32)).toNatClampNeg)]) (rest := [.int r]) X hl.1 hv hS hr0 (kX5_multiply hg h) mw_267 fX5_multiply qM rfl rfl ⟨rfl, rfl, Nat.le_of_ble_eq_true rfl, Nat.le_of_ble_eq_true rfl⟩ ⟨Nat.le_of_ble_eq_true rfl, Nat.le_of_ble_eq_true rfl⟩ rfl rfl (Nat.le_of_ble_eq_true rfl) dL_law_294 (fun r1 ρ1 H1 locs h hv hk hS => ?_)
  replace hw := wd_keep hw (fun q hq1 hq2 => hk q hq1 (hdj q hq2))
  clear hk
  generalize H1 = H at hw hv hS ⊢
  refine lv_icmp_eq (tgt := 848) hx hb dL_law_297 (by decide) (fun hc => ?_) (fun hc => ?_)
  ·
    exact hend σ1 ρ1 H locs ls h.2 hw hv hS hl
  · exact absurd h.1 hc
set_option maxRecDepth 100000 in
set_option maxHeartbeats 4000000 in
theorem law_c4 {p : Program} {l : Launch} {e : Env} {s : State} {m : MethodId} {below : List Frame} {meth : Method} {c : Code} {D : va_G} {g : mG} {Ac Ar : Nat → Prop} {b L : Nat} {xs : Nat → Int32} {Rel : CS → RS → Prop} (hg : inj g) (hL : L ≤ 2560) (hc0 : ∀ q, Ac q → s.heap.size ≤ q) (hr0 : ∀ q, Ar q → s.heap.size ≤ q) (hdj : ∀ q, Ac q → ¬ Ar q) (X : cx p m meth c s #[Value.ref b] cL_law 4 RL D (tyG g)) (hr : meth.sig.returnType = ret) (hX : va_X b L xs s s.heap) (hbl : b < s.heap.size) (hst : LawStep Rel) (σ : CS) (ρ : RS) (hRel : Rel σ ρ) (i3 : Int32) (hi1 : vp_in (i3 + (1 : Int32)) L) (hi2 : vp_in (i3 + (2 : Int32)) L) (hi3 : vp_in (i3 + (3 : Int32)) L) (hi4 : vp_in (i3 + (4 : Int32)) L)
    (hend : ∀ (σ : CS) (ρ : RS) (H : Heap) (locs : List Loc) (ls : Array Slot), Rel σ ρ → wd D Ac (cT g σ) H → wd D Ar (rT g ρ) H → va_S (fun q : Nat => s.heap.size ≤ q) s.heap H locs → lv_has ls 4 [(0, .ref b), (1, .ref (g.1 2010)), (2, .ref (g.1 5000)), (3, .int i3)] → W p l e room_1 s m #[Value.ref b] below meth c H locs 600000 7302250 (lw_Z below #[Value.ref b] s) (F0 m 848 ls []))
    (H : Heap) (locs : List Loc) (ls : Array Slot) (hw : wd D Ac (cT g σ) H) (hv : wd D Ar (rT g ρ) H) (hS : va_S (fun q : Nat => s.heap.size ≤ q) s.heap H locs) (hl : lv_has ls 4 [(0, .ref b), (1, .ref (g.1 2010)), (2, .ref (g.1 5000)), (3, .int i3)]) : W p l e room_1 s m #[Value.ref b] below meth c H locs 600000 7302250 (lw_Z below #[Value.ref b] s) (F0 m 302 ls []) := by
  obtain ⟨hx, hb, hml, hown, hts, hK, hlk⟩ := id X
  have hbA : ¬ (fun q : Nat => s.heap.size ≤ q) b := Nat.not_le.mpr hbl
  refine lv_aload_n hx hb dL_law_302 rfl (lv_at hl 1 rfl) ?_
  refine lv_aload_n hx hb dL_law_303 rfl (lv_at hl 0 rfl) ?_
  refine lv_iload_n hx hb dL_law_304 rfl (lv_at hl 3 rfl) ?_
  refine lv_iconst (v := (1 : Int32)) hx hb dL_law_305 (by decide) ?_
  refine lv_iadd hx hb dL_law_306 ?_
  refine va_sld hx hb hX hbl hbA hS hi1 dL_law_307 ?_
  refine lv_aload_n hx hb dL_law_308 rfl (lv_at hl 0 rfl) ?_
  refine lv_iload_n hx hb dL_law_309 rfl (lv_at hl 3 rfl) ?_
  refine lv_iconst (v := (2 : Int32)) hx hb dL_law_310 (by decide) ?_
  refine lv_iadd hx hb dL_law_311 ?_
  refine va_sld hx hb hX hbl hbA hS hi2 dL_law_312 ?_
  have h := hst.2.2.2.2.1 σ ρ hRel (xs (i3 + (1 : Int32)).toNatClampNeg) (xs (i3 + (2 : Int32)).toNatClampNeg)
  refine l_cVi (TT := cT g) (As := [.int (xs (i3 + (1 : Int32)).toNatClampNeg), .int (xs (i3 + (2 : Int32)).toNatClampNeg)]) (rest := []) X hl.1 hw hS hc0 (kX4_derive hg h) mw_279 fX4_derive tG rfl rfl ⟨rfl, rfl, Nat.le_of_ble_eq_true rfl, Nat.le_of_ble_eq_true rfl⟩ ⟨Nat.le_of_ble_eq_true rfl, Nat.le_of_ble_eq_true rfl⟩ rfl rfl (Nat.le_of_ble_eq_true rfl) dL_law_313 (fun r σ1 H1 locs h hw hk hS => ?_)
  replace hv := wd_keep hv (fun q hq1 hq2 => hk q hq1 (fun z => hdj q z hq2))
  clear hk
  generalize H1 = H at hw hv hS ⊢
  refine lv_aload_n hx hb dL_law_316 rfl (lv_at hl 2 rfl) ?_
  refine lv_aload_n hx hb dL_law_317 rfl (lv_at hl 0 rfl) ?_
  refine lv_iload_n hx hb dL_law_318 rfl (lv_at hl 3 rfl) ?_
  refine lv_iconst (v := (1 : Int32)) hx hb dL_law_319 (by decide) ?_
  refine lv_iadd hx hb dL_law_320 ?_
  refine va_sld hx hb hX hbl hbA hS hi1 dL_law_321 ?_
  refine lv_aload_n hx hb dL_law_322 rfl (lv_at hl 0 rfl) ?_
  refine lv_iload_n hx hb dL_law_323 rfl (lv_at hl 3 rfl) ?_
  refine lv_iconst (v := (2 : Int32)) hx hb dL_law_324 (by decide) ?_
  refine lv_iadd hx hb dL_law_325 ?_
  refine va_sld hx hb hX hbl hbA hS hi2 dL_law_326 ?_
  refine l_cVi (TT := rT g) (As := [.int (xs (i3 + (1 : Int32)).toNatClampNeg), .int (xs (i3 + (2 : Int32)).toNatClampNeg)]) (rest := [.int r]) X hl.1 hv hS hr0 (kX5_derive hg h) mw_292 fX5_derive qM rfl rfl ⟨rfl, rfl, Nat.le_of_ble_eq_true rfl, Nat.le_of_ble_eq_true rfl⟩ ⟨Nat.le_of_ble_eq_true rfl, Nat.le_of_ble_eq_true rfl⟩ rfl rfl (Nat.le_of_ble_eq_true rfl) dL_law_327 (fun r1 ρ1 H1 locs h hv hk hS => ?_)
  replace hw := wd_keep hw (fun q hq1 hq2 => hk q hq1 (hdj q hq2))
  clear hk
  generalize H1 = H at hw hv hS ⊢
  refine lv_icmp_eq (tgt := 848) hx hb dL_law_330 (by decide) (fun hc => ?_) (fun hc => ?_)
  ·
    exact hend σ1 ρ1 H locs ls h.2 hw hv hS hl
  · exact absurd h.1 hc
set_option maxRecDepth 100000 in
set_option maxHeartbeats 4000000 in
theorem law_c5 {p : Program} {l : Launch} {e : Env} {s : State} {m : MethodId} {below : List Frame} {meth : Method} {c : Code} {D : va_G} {g : mG} {Ac Ar : Nat → Prop} {b L : Nat} {xs : Nat → Int32} {Rel : CS → RS → Prop} (hg : inj g) (hL : L ≤ 2560) (hc0 : ∀ q, Ac q → s.heap.size ≤ q) (hr0 : ∀ q, Ar q → s.heap.size ≤ q) (hdj : ∀ q, Ac q → ¬ Ar q) (X : cx p m meth c s #[Value.ref b] cL_law 4 RL D (tyG g)) (hr : meth.sig.returnType = ret) (hX : va_X b L xs s s.heap) (hbl : b < s.heap.size) (hst : LawStep Rel) (σ : CS) (ρ : RS) (hRel : Rel σ ρ) (i3 : Int32) (hi1 : vp_in (i3 + (1 : Int32)) L) (hi2 : vp_in (i3 + (2 : Int32)) L) (hi3 : vp_in (i3 + (3 : Int32)) L) (hi4 : vp_in (i3 + (4 : Int32)) L)
    (hend : ∀ (σ : CS) (ρ : RS) (H : Heap) (locs : List Loc) (ls : Array Slot), Rel σ ρ → wd D Ac (cT g σ) H → wd D Ar (rT g ρ) H → va_S (fun q : Nat => s.heap.size ≤ q) s.heap H locs → lv_has ls 4 [(0, .ref b), (1, .ref (g.1 2010)), (2, .ref (g.1 5000)), (3, .int i3)] → W p l e room_1 s m #[Value.ref b] below meth c H locs 600000 7302250 (lw_Z below #[Value.ref b] s) (F0 m 848 ls []))
    (H : Heap) (locs : List Loc) (ls : Array Slot) (hw : wd D Ac (cT g σ) H) (hv : wd D Ar (rT g ρ) H) (hS : va_S (fun q : Nat => s.heap.size ≤ q) s.heap H locs) (hl : lv_has ls 4 [(0, .ref b), (1, .ref (g.1 2010)), (2, .ref (g.1 5000)), (3, .int i3)]) : W p l e room_1 s m #[Value.ref b] below meth c H locs 600000 7302250 (lw_Z below #[Value.ref b] s) (F0 m 335 ls []) := by
  obtain ⟨hx, hb, hml, hown, hts, hK, hlk⟩ := id X
  have hbA : ¬ (fun q : Nat => s.heap.size ≤ q) b := Nat.not_le.mpr hbl
  refine lv_aload_n hx hb dL_law_335 rfl (lv_at hl 1 rfl) ?_
  refine lv_aload_n hx hb dL_law_336 rfl (lv_at hl 0 rfl) ?_
  refine lv_iload_n hx hb dL_law_337 rfl (lv_at hl 3 rfl) ?_
  refine lv_iconst (v := (1 : Int32)) hx hb dL_law_338 (by decide) ?_
  refine lv_iadd hx hb dL_law_339 ?_
  refine va_sld hx hb hX hbl hbA hS hi1 dL_law_340 ?_
  refine lv_aload_n hx hb dL_law_341 rfl (lv_at hl 0 rfl) ?_
  refine lv_iload_n hx hb dL_law_342 rfl (lv_at hl 3 rfl) ?_
  refine lv_iconst (v := (2 : Int32)) hx hb dL_law_343 (by decide) ?_
  refine lv_iadd hx hb dL_law_344 ?_
  refine va_sld hx hb hX hbl hbA hS hi2 dL_law_345 ?_
  refine lv_aload_n hx hb dL_law_346 rfl (lv_at hl 0 rfl) ?_
  refine lv_iload_n hx hb dL_law_347 rfl (lv_at hl 3 rfl) ?_
  refine lv_iconst (v := (3 : Int32)) hx hb dL_law_348 (by decide) ?_
  refine lv_iadd hx hb dL_law_349 ?_
  refine va_sld hx hb hX hbl hbA hS hi3 dL_law_350 ?_
  have h := hst.2.2.2.2.2.1 σ ρ hRel (xs (i3 + (1 : Int32)).toNatClampNeg) (xs (i3 + (2 : Int32)).toNatClampNeg) (xs (i3 + (3 : Int32)).toNatClampNeg)
  refine l_cVi (TT := cT g) (As := [.int (xs (i3 + (1 : Int32)).toNatClampNeg), .int (xs (i3 + (2 : Int32)).toNatClampNeg), .int (xs (i3 + (3 : Int32)).toNatClampNeg)]) (rest := []) X hl.1 hw hS hc0 (kX4_shift hg h) mw_300 fX4_shift tG rfl rfl ⟨rfl, rfl, Nat.le_of_ble_eq_true rfl, Nat.le_of_ble_eq_true rfl⟩ ⟨Nat.le_of_ble_eq_true rfl, Nat.le_of_ble_eq_true rfl⟩ rfl rfl (Nat.le_of_ble_eq_true rfl) dL_law_351 (fun r σ1 H1 locs h hw hk hS => ?_)
  replace hv := wd_keep hv (fun q hq1 hq2 => hk q hq1 (fun z => hdj q z hq2))
  clear hk
  generalize H1 = H at hw hv hS ⊢
  refine lv_aload_n hx hb dL_law_354 rfl (lv_at hl 2 rfl) ?_
  refine lv_aload_n hx hb dL_law_355 rfl (lv_at hl 0 rfl) ?_
  refine lv_iload_n hx hb dL_law_356 rfl (lv_at hl 3 rfl) ?_
  refine lv_iconst (v := (1 : Int32)) hx hb dL_law_357 (by decide) ?_
  refine lv_iadd hx hb dL_law_358 ?_
  refine va_sld hx hb hX hbl hbA hS hi1 dL_law_359 ?_
  refine lv_aload_n hx hb dL_law_360 rfl (lv_at hl 0 rfl) ?_
  refine lv_iload_n hx hb dL_law_361 rfl (lv_at hl 3 rfl) ?_
  refine lv_iconst (v := (2 : Int32)) hx hb dL_law_362 (by decide) ?_
  refine lv_iadd hx hb dL_law_363 ?_
  refine va_sld hx hb hX hbl hbA hS hi2 dL_law_364 ?_
  refine lv_aload_n hx hb dL_law_365 rfl (lv_at hl 0 rfl) ?_
  refine lv_iload_n hx hb dL_law_366 rfl (lv_at hl 3 rfl) ?_
  refine lv_iconst (v := (3 : Int32)) hx hb dL_law_367 (by decide) ?_
  refine lv_iadd hx hb dL_law_368 ?_
  refine va_sld hx hb hX hbl hbA hS hi3 dL_law_369 ?_
  refine l_cVi (TT := rT g) (As := [.int (xs (i3 + (1 : Int32)).toNatClampNeg), .int (xs (i3 + (2 : Int32)).toNatClampNeg), .int (xs (i3 + (3 : Int32)).toNatClampNeg)]) (rest := [.int r]) X hl.1 hv hS hr0 (kX5_shift hg h) mw_310 fX5_shift qM rfl rfl ⟨rfl, rfl, Nat.le_of_ble_eq_true rfl, Nat.le_of_ble_eq_true rfl⟩ ⟨Nat.le_of_ble_eq_true rfl, Nat.le_of_ble_eq_true rfl⟩ rfl rfl (Nat.le_of_ble_eq_true rfl) dL_law_370 (fun r1 ρ1 H1 locs h hv hk hS => ?_)
  replace hw := wd_keep hw (fun q hq1 hq2 => hk q hq1 (hdj q hq2))
  clear hk
  generalize H1 = H at hw hv hS ⊢
  refine lv_icmp_eq (tgt := 848) hx hb dL_law_373 (by decide) (fun hc => ?_) (fun hc => ?_)
  ·
    exact hend σ1 ρ1 H locs ls h.2 hw hv hS hl
  · exact absurd h.1 hc
set_option maxRecDepth 100000 in
set_option maxHeartbeats 4000000 in
theorem law_c6 {p : Program} {l : Launch} {e : Env} {s : State} {m : MethodId} {below : List Frame} {meth : Method} {c : Code} {D : va_G} {g : mG} {Ac Ar : Nat → Prop} {b L : Nat} {xs : Nat → Int32} {Rel : CS → RS → Prop} (hg : inj g) (hL : L ≤ 2560) (hc0 : ∀ q, Ac q → s.heap.size ≤ q) (hr0 : ∀ q, Ar q → s.heap.size ≤ q) (hdj : ∀ q, Ac q → ¬ Ar q) (X : cx p m meth c s #[Value.ref b] cL_law 4 RL D (tyG g)) (hr : meth.sig.returnType = ret) (hX : va_X b L xs s s.heap) (hbl : b < s.heap.size) (hst : LawStep Rel) (σ : CS) (ρ : RS) (hRel : Rel σ ρ) (i3 : Int32) (hi1 : vp_in (i3 + (1 : Int32)) L) (hi2 : vp_in (i3 + (2 : Int32)) L) (hi3 : vp_in (i3 + (3 : Int32)) L) (hi4 : vp_in (i3 + (4 : Int32)) L)
    (hend : ∀ (σ : CS) (ρ : RS) (H : Heap) (locs : List Loc) (ls : Array Slot), Rel σ ρ → wd D Ac (cT g σ) H → wd D Ar (rT g ρ) H → va_S (fun q : Nat => s.heap.size ≤ q) s.heap H locs → lv_has ls 4 [(0, .ref b), (1, .ref (g.1 2010)), (2, .ref (g.1 5000)), (3, .int i3)] → W p l e room_1 s m #[Value.ref b] below meth c H locs 600000 7302250 (lw_Z below #[Value.ref b] s) (F0 m 848 ls []))
    (H : Heap) (locs : List Loc) (ls : Array Slot) (hw : wd D Ac (cT g σ) H) (hv : wd D Ar (rT g ρ) H) (hS : va_S (fun q : Nat => s.heap.size ≤ q) s.heap H locs) (hl : lv_has ls 4 [(0, .ref b), (1, .ref (g.1 2010)), (2, .ref (g.1 5000)), (3, .int i3)]) : W p l e room_1 s m #[Value.ref b] below meth c H locs 600000 7302250 (lw_Z below #[Value.ref b] s) (F0 m 378 ls []) := by
  obtain ⟨hx, hb, hml, hown, hts, hK, hlk⟩ := id X
  have hbA : ¬ (fun q : Nat => s.heap.size ≤ q) b := Nat.not_le.mpr hbl
  refine lv_aload_n hx hb dL_law_378 rfl (lv_at hl 1 rfl) ?_
  refine lv_aload_n hx hb dL_law_379 rfl (lv_at hl 0 rfl) ?_
  refine lv_iload_n hx hb dL_law_380 rfl (lv_at hl 3 rfl) ?_
  refine lv_iconst (v := (1 : Int32)) hx hb dL_law_381 (by decide) ?_
  refine lv_iadd hx hb dL_law_382 ?_
  refine va_sld hx hb hX hbl hbA hS hi1 dL_law_383 ?_
  refine lv_aload_n hx hb dL_law_384 rfl (lv_at hl 0 rfl) ?_
  refine lv_iload_n hx hb dL_law_385 rfl (lv_at hl 3 rfl) ?_
  refine lv_iconst (v := (2 : Int32)) hx hb dL_law_386 (by decide) ?_
  refine lv_iadd hx hb dL_law_387 ?_
  refine va_sld hx hb hX hbl hbA hS hi2 dL_law_388 ?_
  refine lv_aload_n hx hb dL_law_389 rfl (lv_at hl 0 rfl) ?_
  refine lv_iload_n hx hb dL_law_390 rfl (lv_at hl 3 rfl) ?_
  refine lv_iconst (v := (3 : Int32)) hx hb dL_law_391 (by decide) ?_
  refine lv_iadd hx hb dL_law_392 ?_
  refine va_sld hx hb hX hbl hbA hS hi3 dL_law_393 ?_
  have h := hst.2.2.2.2.2.2.1 σ ρ hRel (xs (i3 + (1 : Int32)).toNatClampNeg) (xs (i3 + (2 : Int32)).toNatClampNeg) (xs (i3 + (3 : Int32)).toNatClampNeg)
  refine l_cVi (TT := cT g) (As := [.int (xs (i3 + (1 : Int32)).toNatClampNeg), .int (xs (i3 + (2 : Int32)).toNatClampNeg), .int (xs (i3 + (3 : Int32)).toNatClampNeg)]) (rest := []) X hl.1 hw hS hc0 (kX4_remainder hg h) mw_314 fX4_remainder tG rfl rfl ⟨rfl, rfl, Nat.le_of_ble_eq_true rfl, Nat.le_of_ble_eq_true rfl⟩ ⟨Nat.le_of_ble_eq_true rfl, Nat.le_of_ble_eq_true rfl⟩ rfl rfl (Nat.le_of_ble_eq_true rfl) dL_law_394 (fun r σ1 H1 locs h hw hk hS => ?_)
  replace hv := wd_keep hv (fun q hq1 hq2 => hk q hq1 (fun z => hdj q z hq2))
  clear hk
  generalize H1 = H at hw hv hS ⊢
  refine lv_aload_n hx hb dL_law_397 rfl (lv_at hl 2 rfl) ?_
  refine lv_aload_n hx hb dL_law_398 rfl (lv_at hl 0 rfl) ?_
  refine lv_iload_n hx hb dL_law_399 rfl (lv_at hl 3 rfl) ?_
  refine lv_iconst (v := (1 : Int32)) hx hb dL_law_400 (by decide) ?_
  refine lv_iadd hx hb dL_law_401 ?_
  refine va_sld hx hb hX hbl hbA hS hi1 dL_law_402 ?_
  refine lv_aload_n hx hb dL_law_403 rfl (lv_at hl 0 rfl) ?_
  refine lv_iload_n hx hb dL_law_404 rfl (lv_at hl 3 rfl) ?_
  refine lv_iconst (v := (2 : Int32)) hx hb dL_law_405 (by decide) ?_
  refine lv_iadd hx hb dL_law_406 ?_
  refine va_sld hx hb hX hbl hbA hS hi2 dL_law_407 ?_
  refine lv_aload_n hx hb dL_law_408 rfl (lv_at hl 0 rfl) ?_
  refine lv_iload_n hx hb dL_law_409 rfl (lv_at hl 3 rfl) ?_
  refine lv_iconst (v := (3 : Int32)) hx hb dL_law_410 (by decide) ?_
  refine lv_iadd hx hb dL_law_411 ?_
  refine va_sld hx hb hX hbl hbA hS hi3 dL_law_412 ?_
  refine l_cVi (TT := rT g) (As := [.int (xs (i3 + (1 : Int32)).toNatClampNeg), .int (xs (i3 + (2 : Int32)).toNatClampNeg), .int (xs (i3 + (3 : Int32)).toNatClampNeg)]) (rest := [.int r]) X hl.1 hv hS hr0 (kX5_remainder hg h) mw_340 fX5_remainder qM rfl rfl ⟨rfl, rfl, Nat.le_of_ble_eq_true rfl, Nat.le_of_ble_eq_true rfl⟩ ⟨Nat.le_of_ble_eq_true rfl, Nat.le_of_ble_eq_true rfl⟩ rfl rfl (Nat.le_of_ble_eq_true rfl) dL_law_413 (fun r1 ρ1 H1 locs h hv hk hS => ?_)
  replace hw := wd_keep hw (fun q hq1 hq2 => hk q hq1 (hdj q hq2))
  clear hk
  generalize H1 = H at hw hv hS ⊢
  refine lv_icmp_eq (tgt := 848) hx hb dL_law_416 (by decide) (fun hc => ?_) (fun hc => ?_)
  ·
    exact hend σ1 ρ1 H locs ls h.2 hw hv hS hl
  · exact absurd h.1 hc
set_option maxRecDepth 100000 in
set_option maxHeartbeats 4000000 in
theorem law_c7 {p : Program} {l : Launch} {e : Env} {s : State} {m : MethodId} {below : List Frame} {meth : Method} {c : Code} {D : va_G} {g : mG} {Ac Ar : Nat → Prop} {b L : Nat} {xs : Nat → Int32} {Rel : CS → RS → Prop} (hg : inj g) (hL : L ≤ 2560) (hc0 : ∀ q, Ac q → s.heap.size ≤ q) (hr0 : ∀ q, Ar q → s.heap.size ≤ q) (hdj : ∀ q, Ac q → ¬ Ar q) (X : cx p m meth c s #[Value.ref b] cL_law 4 RL D (tyG g)) (hr : meth.sig.returnType = ret) (hX : va_X b L xs s s.heap) (hbl : b < s.heap.size) (hst : LawStep Rel) (σ : CS) (ρ : RS) (hRel : Rel σ ρ) (i3 : Int32) (hi1 : vp_in (i3 + (1 : Int32)) L) (hi2 : vp_in (i3 + (2 : Int32)) L) (hi3 : vp_in (i3 + (3 : Int32)) L) (hi4 : vp_in (i3 + (4 : Int32)) L)
    (hend : ∀ (σ : CS) (ρ : RS) (H : Heap) (locs : List Loc) (ls : Array Slot), Rel σ ρ → wd D Ac (cT g σ) H → wd D Ar (rT g ρ) H → va_S (fun q : Nat => s.heap.size ≤ q) s.heap H locs → lv_has ls 4 [(0, .ref b), (1, .ref (g.1 2010)), (2, .ref (g.1 5000)), (3, .int i3)] → W p l e room_1 s m #[Value.ref b] below meth c H locs 600000 7302250 (lw_Z below #[Value.ref b] s) (F0 m 848 ls []))
    (H : Heap) (locs : List Loc) (ls : Array Slot) (hw : wd D Ac (cT g σ) H) (hv : wd D Ar (rT g ρ) H) (hS : va_S (fun q : Nat => s.heap.size ≤ q) s.heap H locs) (hl : lv_has ls 4 [(0, .ref b), (1, .ref (g.1 2010)), (2, .ref (g.1 5000)), (3, .int i3)]) : W p l e room_1 s m #[Value.ref b] below meth c H locs 600000 7302250 (lw_Z below #[Value.ref b] s) (F0 m 421 ls []) := by
  obtain ⟨hx, hb, hml, hown, hts, hK, hlk⟩ := id X
  have hbA : ¬ (fun q : Nat => s.heap.size ≤ q) b := Nat.not_le.mpr hbl
  refine lv_aload_n hx hb dL_law_421 rfl (lv_at hl 1 rfl) ?_
  refine lv_aload_n hx hb dL_law_422 rfl (lv_at hl 0 rfl) ?_
  refine lv_iload_n hx hb dL_law_423 rfl (lv_at hl 3 rfl) ?_
  refine lv_iconst (v := (1 : Int32)) hx hb dL_law_424 (by decide) ?_
  refine lv_iadd hx hb dL_law_425 ?_
  refine va_sld hx hb hX hbl hbA hS hi1 dL_law_426 ?_
  refine lv_aload_n hx hb dL_law_427 rfl (lv_at hl 0 rfl) ?_
  refine lv_iload_n hx hb dL_law_428 rfl (lv_at hl 3 rfl) ?_
  refine lv_iconst (v := (2 : Int32)) hx hb dL_law_429 (by decide) ?_
  refine lv_iadd hx hb dL_law_430 ?_
  refine va_sld hx hb hX hbl hbA hS hi2 dL_law_431 ?_
  refine lv_aload_n hx hb dL_law_432 rfl (lv_at hl 0 rfl) ?_
  refine lv_iload_n hx hb dL_law_433 rfl (lv_at hl 3 rfl) ?_
  refine lv_iconst (v := (3 : Int32)) hx hb dL_law_434 (by decide) ?_
  refine lv_iadd hx hb dL_law_435 ?_
  refine va_sld hx hb hX hbl hbA hS hi3 dL_law_436 ?_
  have h := hst.2.2.2.2.2.2.2.1 σ ρ hRel (xs (i3 + (1 : Int32)).toNatClampNeg) (xs (i3 + (2 : Int32)).toNatClampNeg) (xs (i3 + (3 : Int32)).toNatClampNeg)
  refine l_cVi (TT := cT g) (As := [.int (xs (i3 + (1 : Int32)).toNatClampNeg), .int (xs (i3 + (2 : Int32)).toNatClampNeg), .int (xs (i3 + (3 : Int32)).toNatClampNeg)]) (rest := []) X hl.1 hw hS hc0 (kX4_quotient hg h) mw_348 fX4_quotient tG rfl rfl ⟨rfl, rfl, Nat.le_of_ble_eq_true rfl, Nat.le_of_ble_eq_true rfl⟩ ⟨Nat.le_of_ble_eq_true rfl, Nat.le_of_ble_eq_true rfl⟩ rfl rfl (Nat.le_of_ble_eq_true rfl) dL_law_437 (fun r σ1 H1 locs h hw hk hS => ?_)
  replace hv := wd_keep hv (fun q hq1 hq2 => hk q hq1 (fun z => hdj q z hq2))
  clear hk
  generalize H1 = H at hw hv hS ⊢
  refine lv_aload_n hx hb dL_law_440 rfl (lv_at hl 2 rfl) ?_
  refine lv_aload_n hx hb dL_law_441 rfl (lv_at hl 0 rfl) ?_
  refine lv_iload_n hx hb dL_law_442 rfl (lv_at hl 3 rfl) ?_
  refine lv_iconst (v := (1 : Int32)) hx hb dL_law_443 (by decide) ?_
  refine lv_iadd hx hb dL_law_444 ?_
  refine va_sld hx hb hX hbl hbA hS hi1 dL_law_445 ?_
  refine lv_aload_n hx hb dL_law_446 rfl (lv_at hl 0 rfl) ?_
  refine lv_iload_n hx hb dL_law_447 rfl (lv_at hl 3 rfl) ?_
  refine lv_iconst (v := (2 : Int32)) hx hb dL_law_448 (by decide) ?_
  refine lv_iadd hx hb dL_law_449 ?_
  refine va_sld hx hb hX hbl hbA hS hi2 dL_law_450 ?_
  refine lv_aload_n hx hb dL_law_451 rfl (lv_at hl 0 rfl) ?_
  refine lv_iload_n hx hb dL_law_452 rfl (lv_at hl 3 rfl) ?_
  refine lv_iconst (v := (3 : Int32)) hx hb dL_law_453 (by decide) ?_
  refine lv_iadd hx hb dL_law_454 ?_
  refine va_sld hx hb hX hbl hbA hS hi3 dL_law_455 ?_
  refine l_cVi (TT := rT g) (As := [.int (xs (i3 + (1 : Int32)).toNatClampNeg), .int (xs (i3 + (2 : Int32)).toNatClampNeg), .int (xs (i3 + (3 : Int32)).toNatClampNeg)]) (rest := [.int r]) X hl.1 hv hS hr0 (kX5_quotient hg h) mw_383 fX5_quotient qM rfl rfl ⟨rfl, rfl, Nat.le_of_ble_eq_true rfl, Nat.le_of_ble_eq_true rfl⟩ ⟨Nat.le_of_ble_eq_true rfl, Nat.le_of_ble_eq_true rfl⟩ rfl rfl (Nat.le_of_ble_eq_true rfl) dL_law_456 (fun r1 ρ1 H1 locs h hv hk hS => ?_)
  replace hw := wd_keep hw (fun q hq1 hq2 => hk q hq1 (hdj q hq2))
  clear hk
  generalize H1 = H at hw hv hS ⊢
  refine lv_icmp_eq (tgt := 848) hx hb dL_law_459 (by decide) (fun hc => ?_) (fun hc => ?_)
  ·
    exact hend σ1 ρ1 H locs ls h.2 hw hv hS hl
  · exact absurd h.1 hc
set_option maxRecDepth 100000 in
set_option maxHeartbeats 4000000 in
theorem law_c8 {p : Program} {l : Launch} {e : Env} {s : State} {m : MethodId} {below : List Frame} {meth : Method} {c : Code} {D : va_G} {g : mG} {Ac Ar : Nat → Prop} {b L : Nat} {xs : Nat → Int32} {Rel : CS → RS → Prop} (hg : inj g) (hL : L ≤ 2560) (hc0 : ∀ q, Ac q → s.heap.size ≤ q) (hr0 : ∀ q, Ar q → s.heap.size ≤ q) (hdj : ∀ q, Ac q → ¬ Ar q) (X : cx p m meth c s #[Value.ref b] cL_law 4 RL D (tyG g)) (hr : meth.sig.returnType = ret) (hX : va_X b L xs s s.heap) (hbl : b < s.heap.size) (hst : LawStep Rel) (σ : CS) (ρ : RS) (hRel : Rel σ ρ) (i3 : Int32) (hi1 : vp_in (i3 + (1 : Int32)) L) (hi2 : vp_in (i3 + (2 : Int32)) L) (hi3 : vp_in (i3 + (3 : Int32)) L) (hi4 : vp_in (i3 + (4 : Int32)) L)
    (hend : ∀ (σ : CS) (ρ : RS) (H : Heap) (locs : List Loc) (ls : Array Slot), Rel σ ρ → wd D Ac (cT g σ) H → wd D Ar (rT g ρ) H → va_S (fun q : Nat => s.heap.size ≤ q) s.heap H locs → lv_has ls 4 [(0, .ref b), (1, .ref (g.1 2010)), (2, .ref (g.1 5000)), (3, .int i3)] → W p l e room_1 s m #[Value.ref b] below meth c H locs 600000 7302250 (lw_Z below #[Value.ref b] s) (F0 m 848 ls []))
    (H : Heap) (locs : List Loc) (ls : Array Slot) (hw : wd D Ac (cT g σ) H) (hv : wd D Ar (rT g ρ) H) (hS : va_S (fun q : Nat => s.heap.size ≤ q) s.heap H locs) (hl : lv_has ls 4 [(0, .ref b), (1, .ref (g.1 2010)), (2, .ref (g.1 5000)), (3, .int i3)]) : W p l e room_1 s m #[Value.ref b] below meth c H locs 600000 7302250 (lw_Z below #[Value.ref b] s) (F0 m 464 ls []) := by
  obtain ⟨hx, hb, hml, hown, hts, hK, hlk⟩ := id X
  have hbA : ¬ (fun q : Nat => s.heap.size ≤ q) b := Nat.not_le.mpr hbl
  refine lv_aload_n hx hb dL_law_464 rfl (lv_at hl 1 rfl) ?_
  refine lv_aload_n hx hb dL_law_465 rfl (lv_at hl 0 rfl) ?_
  refine lv_iload_n hx hb dL_law_466 rfl (lv_at hl 3 rfl) ?_
  refine lv_iconst (v := (1 : Int32)) hx hb dL_law_467 (by decide) ?_
  refine lv_iadd hx hb dL_law_468 ?_
  refine va_sld hx hb hX hbl hbA hS hi1 dL_law_469 ?_
  refine lv_aload_n hx hb dL_law_470 rfl (lv_at hl 0 rfl) ?_
  refine lv_iload_n hx hb dL_law_471 rfl (lv_at hl 3 rfl) ?_
  refine lv_iconst (v := (2 : Int32)) hx hb dL_law_472 (by decide) ?_
  refine lv_iadd hx hb dL_law_473 ?_
  refine va_sld hx hb hX hbl hbA hS hi2 dL_law_474 ?_
  refine lv_aload_n hx hb dL_law_475 rfl (lv_at hl 0 rfl) ?_
  refine lv_iload_n hx hb dL_law_476 rfl (lv_at hl 3 rfl) ?_
  refine lv_iconst (v := (3 : Int32)) hx hb dL_law_477 (by decide) ?_
  refine lv_iadd hx hb dL_law_478 ?_
  refine va_sld hx hb hX hbl hbA hS hi3 dL_law_479 ?_
  have h := hst.2.2.2.2.2.2.2.2.1 σ ρ hRel (xs (i3 + (1 : Int32)).toNatClampNeg) (xs (i3 + (2 : Int32)).toNatClampNeg) (xs (i3 + (3 : Int32)).toNatClampNeg)
  refine l_cVi (TT := cT g) (As := [.int (xs (i3 + (1 : Int32)).toNatClampNeg), .int (xs (i3 + (2 : Int32)).toNatClampNeg), .int (xs (i3 + (3 : Int32)).toNatClampNeg)]) (rest := []) X hl.1 hw hS hc0 (kX4_gcd hg h) mw_399 fX4_gcd tG rfl rfl ⟨rfl, rfl, Nat.le_of_ble_eq_true rfl, Nat.le_of_ble_eq_true rfl⟩ ⟨Nat.le_of_ble_eq_true rfl, Nat.le_of_ble_eq_true rfl⟩ rfl rfl (Nat.le_of_ble_eq_true rfl) dL_law_480 (fun r σ1 H1 locs h hw hk hS => ?_)
  replace hv := wd_keep hv (fun q hq1 hq2 => hk q hq1 (fun z => hdj q z hq2))
  clear hk
  generalize H1 = H at hw hv hS ⊢
  refine lv_aload_n hx hb dL_law_483 rfl (lv_at hl 2 rfl) ?_
  refine lv_aload_n hx hb dL_law_484 rfl (lv_at hl 0 rfl) ?_
  refine lv_iload_n hx hb dL_law_485 rfl (lv_at hl 3 rfl) ?_
  refine lv_iconst (v := (1 : Int32)) hx hb dL_law_486 (by decide) ?_
  refine lv_iadd hx hb dL_law_487 ?_
  refine va_sld hx hb hX hbl hbA hS hi1 dL_law_488 ?_
  refine lv_aload_n hx hb dL_law_489 rfl (lv_at hl 0 rfl) ?_
  refine lv_iload_n hx hb dL_law_490 rfl (lv_at hl 3 rfl) ?_
  refine lv_iconst (v := (2 : Int32)) hx hb dL_law_491 (by decide) ?_
  refine lv_iadd hx hb dL_law_492 ?_
  refine va_sld hx hb hX hbl hbA hS hi2 dL_law_493 ?_
  refine lv_aload_n hx hb dL_law_494 rfl (lv_at hl 0 rfl) ?_
  refine lv_iload_n hx hb dL_law_495 rfl (lv_at hl 3 rfl) ?_
  refine lv_iconst (v := (3 : Int32)) hx hb dL_law_496 (by decide) ?_
  refine lv_iadd hx hb dL_law_497 ?_
  refine va_sld hx hb hX hbl hbA hS hi3 dL_law_498 ?_
  refine l_cVi (TT := rT g) (As := [.int (xs (i3 + (1 : Int32)).toNatClampNeg), .int (xs (i3 + (2 : Int32)).toNatClampNeg), .int (xs (i3 + (3 : Int32)).toNatClampNeg)]) (rest := [.int r]) X hl.1 hv hS hr0 (kX5_gcd hg h) mw_464 fX5_gcd qM rfl rfl ⟨rfl, rfl, Nat.le_of_ble_eq_true rfl, Nat.le_of_ble_eq_true rfl⟩ ⟨Nat.le_of_ble_eq_true rfl, Nat.le_of_ble_eq_true rfl⟩ rfl rfl (Nat.le_of_ble_eq_true rfl) dL_law_499 (fun r1 ρ1 H1 locs h hv hk hS => ?_)
  replace hw := wd_keep hw (fun q hq1 hq2 => hk q hq1 (hdj q hq2))
  clear hk
  generalize H1 = H at hw hv hS ⊢
  refine lv_icmp_eq (tgt := 848) hx hb dL_law_502 (by decide) (fun hc => ?_) (fun hc => ?_)
  ·
    exact hend σ1 ρ1 H locs ls h.2 hw hv hS hl
  · exact absurd h.1 hc
set_option maxRecDepth 100000 in
set_option maxHeartbeats 4000000 in
theorem law_c9 {p : Program} {l : Launch} {e : Env} {s : State} {m : MethodId} {below : List Frame} {meth : Method} {c : Code} {D : va_G} {g : mG} {Ac Ar : Nat → Prop} {b L : Nat} {xs : Nat → Int32} {Rel : CS → RS → Prop} (hg : inj g) (hL : L ≤ 2560) (hc0 : ∀ q, Ac q → s.heap.size ≤ q) (hr0 : ∀ q, Ar q → s.heap.size ≤ q) (hdj : ∀ q, Ac q → ¬ Ar q) (X : cx p m meth c s #[Value.ref b] cL_law 4 RL D (tyG g)) (hr : meth.sig.returnType = ret) (hX : va_X b L xs s s.heap) (hbl : b < s.heap.size) (hst : LawStep Rel) (σ : CS) (ρ : RS) (hRel : Rel σ ρ) (i3 : Int32) (hi1 : vp_in (i3 + (1 : Int32)) L) (hi2 : vp_in (i3 + (2 : Int32)) L) (hi3 : vp_in (i3 + (3 : Int32)) L) (hi4 : vp_in (i3 + (4 : Int32)) L)
    (hend : ∀ (σ : CS) (ρ : RS) (H : Heap) (locs : List Loc) (ls : Array Slot), Rel σ ρ → wd D Ac (cT g σ) H → wd D Ar (rT g ρ) H → va_S (fun q : Nat => s.heap.size ≤ q) s.heap H locs → lv_has ls 4 [(0, .ref b), (1, .ref (g.1 2010)), (2, .ref (g.1 5000)), (3, .int i3)] → W p l e room_1 s m #[Value.ref b] below meth c H locs 600000 7302250 (lw_Z below #[Value.ref b] s) (F0 m 848 ls []))
    (H : Heap) (locs : List Loc) (ls : Array Slot) (hw : wd D Ac (cT g σ) H) (hv : wd D Ar (rT g ρ) H) (hS : va_S (fun q : Nat => s.heap.size ≤ q) s.heap H locs) (hl : lv_has ls 4 [(0, .ref b), (1, .ref (g.1 2010)), (2, .ref (g.1 5000)), (3, .int i3)]) : W p l e room_1 s m #[Value.ref b] below meth c H locs 600000 7302250 (lw_Z below #[Value.ref b] s) (F0 m 507 ls []) := by
  obtain ⟨hx, hb, hml, hown, hts, hK, hlk⟩ := id X
  have hbA : ¬ (fun q : Nat => s.heap.size ≤ q) b := Nat.not_le.mpr hbl
  refine lv_aload_n hx hb dL_law_507 rfl (lv_at hl 1 rfl) ?_
  refine lv_aload_n hx hb dL_law_508 rfl (lv_at hl 0 rfl) ?_
  refine lv_iload_n hx hb dL_law_509 rfl (lv_at hl 3 rfl) ?_
  refine lv_iconst (v := (1 : Int32)) hx hb dL_law_510 (by decide) ?_
  refine lv_iadd hx hb dL_law_511 ?_
  refine va_sld hx hb hX hbl hbA hS hi1 dL_law_512 ?_
  refine lv_aload_n hx hb dL_law_513 rfl (lv_at hl 0 rfl) ?_
  refine lv_iload_n hx hb dL_law_514 rfl (lv_at hl 3 rfl) ?_
  refine lv_iconst (v := (2 : Int32)) hx hb dL_law_515 (by decide) ?_
  refine lv_iadd hx hb dL_law_516 ?_
  refine va_sld hx hb hX hbl hbA hS hi2 dL_law_517 ?_
  have h := hst.2.2.2.2.2.2.2.2.2.1 σ ρ hRel (xs (i3 + (1 : Int32)).toNatClampNeg) (xs (i3 + (2 : Int32)).toNatClampNeg)
  refine l_cVi (TT := cT g) (As := [.int (xs (i3 + (1 : Int32)).toNatClampNeg), .int (xs (i3 + (2 : Int32)).toNatClampNeg)]) (rest := []) X hl.1 hw hS hc0 (kX4_once hg h) mw_480 fX4_once tG rfl rfl ⟨rfl, rfl, Nat.le_of_ble_eq_true rfl, Nat.le_of_ble_eq_true rfl⟩ ⟨Nat.le_of_ble_eq_true rfl, Nat.le_of_ble_eq_true rfl⟩ rfl rfl (Nat.le_of_ble_eq_true rfl) dL_law_518 (fun r σ1 H1 locs h hw hk hS => ?_)
  replace hv := wd_keep hv (fun q hq1 hq2 => hk q hq1 (fun z => hdj q z hq2))
  clear hk
  generalize H1 = H at hw hv hS ⊢
  refine lv_aload_n hx hb dL_law_521 rfl (lv_at hl 2 rfl) ?_
  refine lv_aload_n hx hb dL_law_522 rfl (lv_at hl 0 rfl) ?_
  refine lv_iload_n hx hb dL_law_523 rfl (lv_at hl 3 rfl) ?_
  refine lv_iconst (v := (1 : Int32)) hx hb dL_law_524 (by decide) ?_
  refine lv_iadd hx hb dL_law_525 ?_
  refine va_sld hx hb hX hbl hbA hS hi1 dL_law_526 ?_
  refine lv_aload_n hx hb dL_law_527 rfl (lv_at hl 0 rfl) ?_
  refine lv_iload_n hx hb dL_law_528 rfl (lv_at hl 3 rfl) ?_
  refine lv_iconst (v := (2 : Int32)) hx hb dL_law_529 (by decide) ?_
  refine lv_iadd hx hb dL_law_530 ?_
  refine va_sld hx hb hX hbl hbA hS hi2 dL_law_531 ?_
  refine l_cVi (TT := rT g) (As := [.int (xs (i3 + (1 : Int32)).toNatClampNeg), .int (xs (i3 + (2 : Int32)).toNatClampNeg)]) (rest := [.int r]) X hl.1 hv hS hr0 (kX5_once hg h) mw_494 fX5_once qM rfl rfl ⟨rfl, rfl, Nat.le_of_ble_eq_true rfl, Nat.le_of_ble_eq_true rfl⟩ ⟨Nat.le_of_ble_eq_true rfl, Nat.le_of_ble_eq_true rfl⟩ rfl rfl (Nat.le_of_ble_eq_true rfl) dL_law_532 (fun r1 ρ1 H1 locs h hv hk hS => ?_)
  replace hw := wd_keep hw (fun q hq1 hq2 => hk q hq1 (hdj q hq2))
  clear hk
  generalize H1 = H at hw hv hS ⊢
  refine lv_icmp_eq (tgt := 848) hx hb dL_law_535 (by decide) (fun hc => ?_) (fun hc => ?_)
  ·
    exact hend σ1 ρ1 H locs ls h.2 hw hv hS hl
  · exact absurd h.1 hc
set_option maxRecDepth 100000 in
set_option maxHeartbeats 4000000 in
theorem law_c10 {p : Program} {l : Launch} {e : Env} {s : State} {m : MethodId} {below : List Frame} {meth : Method} {c : Code} {D : va_G} {g : mG} {Ac Ar : Nat → Prop} {b L : Nat} {xs : Nat → Int32} {Rel : CS → RS → Prop} (hg : inj g) (hL : L ≤ 2560) (hc0 : ∀ q, Ac q → s.heap.size ≤ q) (hr0 : ∀ q, Ar q → s.heap.size ≤ q) (hdj : ∀ q, Ac q → ¬ Ar q) (X : cx p m meth c s #[Value.ref b] cL_law 4 RL D (tyG g)) (hr : meth.sig.returnType = ret) (hX : va_X b L xs s s.heap) (hbl : b < s.heap.size) (hst : LawStep Rel) (σ : CS) (ρ : RS) (hRel : Rel σ ρ) (i3 : Int32) (hi1 : vp_in (i3 + (1 : Int32)) L) (hi2 : vp_in (i3 + (2 : Int32)) L) (hi3 : vp_in (i3 + (3 : Int32)) L) (hi4 : vp_in (i3 + (4 : Int32)) L)
    (hend : ∀ (σ : CS) (ρ : RS) (H : Heap) (locs : List Loc) (ls : Array Slot), Rel σ ρ → wd D Ac (cT g σ) H → wd D Ar (rT g ρ) H → va_S (fun q : Nat => s.heap.size ≤ q) s.heap H locs → lv_has ls 4 [(0, .ref b), (1, .ref (g.1 2010)), (2, .ref (g.1 5000)), (3, .int i3)] → W p l e room_1 s m #[Value.ref b] below meth c H locs 600000 7302250 (lw_Z below #[Value.ref b] s) (F0 m 848 ls []))
    (H : Heap) (locs : List Loc) (ls : Array Slot) (hw : wd D Ac (cT g σ) H) (hv : wd D Ar (rT g ρ) H) (hS : va_S (fun q : Nat => s.heap.size ≤ q) s.heap H locs) (hl : lv_has ls 4 [(0, .ref b), (1, .ref (g.1 2010)), (2, .ref (g.1 5000)), (3, .int i3)]) : W p l e room_1 s m #[Value.ref b] below meth c H locs 600000 7302250 (lw_Z below #[Value.ref b] s) (F0 m 540 ls []) := by
  obtain ⟨hx, hb, hml, hown, hts, hK, hlk⟩ := id X
  have hbA : ¬ (fun q : Nat => s.heap.size ≤ q) b := Nat.not_le.mpr hbl
  refine lv_aload_n hx hb dL_law_540 rfl (lv_at hl 1 rfl) ?_
  refine lv_aload_n hx hb dL_law_541 rfl (lv_at hl 0 rfl) ?_
  refine lv_iload_n hx hb dL_law_542 rfl (lv_at hl 3 rfl) ?_
  refine lv_iconst (v := (1 : Int32)) hx hb dL_law_543 (by decide) ?_
  refine lv_iadd hx hb dL_law_544 ?_
  refine va_sld hx hb hX hbl hbA hS hi1 dL_law_545 ?_
  refine lv_aload_n hx hb dL_law_546 rfl (lv_at hl 0 rfl) ?_
  refine lv_iload_n hx hb dL_law_547 rfl (lv_at hl 3 rfl) ?_
  refine lv_iconst (v := (2 : Int32)) hx hb dL_law_548 (by decide) ?_
  refine lv_iadd hx hb dL_law_549 ?_
  refine va_sld hx hb hX hbl hbA hS hi2 dL_law_550 ?_
  refine lv_aload_n hx hb dL_law_551 rfl (lv_at hl 0 rfl) ?_
  refine lv_iload_n hx hb dL_law_552 rfl (lv_at hl 3 rfl) ?_
  refine lv_iconst (v := (3 : Int32)) hx hb dL_law_553 (by decide) ?_
  refine lv_iadd hx hb dL_law_554 ?_
  refine va_sld hx hb hX hbl hbA hS hi3 dL_law_555 ?_
  have h := hst.2.2.2.2.2.2.2.2.2.2.1 σ ρ hRel (xs (i3 + (1 : Int32)).toNatClampNeg) (xs (i3 + (2 : Int32)).toNatClampNeg) (xs (i3 + (3 : Int32)).toNatClampNeg)
  refine l_cVi (TT := cT g) (As := [.int (xs (i3 + (1 : Int32)).toNatClampNeg), .int (xs (i3 + (2 : Int32)).toNatClampNeg), .int (xs (i3 + (3 : Int32)).toNatClampNeg)]) (rest := []) X hl.1 hw hS hc0 (kX4_sign hg h) mw_502 fX4_sign tG rfl rfl ⟨rfl, rfl, Nat.le_of_ble_eq_true rfl, Nat.le_of_ble_eq_true rfl⟩ ⟨Nat.le_of_ble_eq_true rfl, Nat.le_of_ble_eq_true rfl⟩ rfl rfl (Nat.le_of_ble_eq_true rfl) dL_law_556 (fun r σ1 H1 locs h hw hk hS => ?_)
  replace hv := wd_keep hv (fun q hq1 hq2 => hk q hq1 (fun z => hdj q z hq2))
  clear hk
  generalize H1 = H at hw hv hS ⊢
  refine lv_aload_n hx hb dL_law_559 rfl (lv_at hl 2 rfl) ?_
  refine lv_aload_n hx hb dL_law_560 rfl (lv_at hl 0 rfl) ?_
  refine lv_iload_n hx hb dL_law_561 rfl (lv_at hl 3 rfl) ?_
  refine lv_iconst (v := (1 : Int32)) hx hb dL_law_562 (by decide) ?_
  refine lv_iadd hx hb dL_law_563 ?_
  refine va_sld hx hb hX hbl hbA hS hi1 dL_law_564 ?_
  refine lv_aload_n hx hb dL_law_565 rfl (lv_at hl 0 rfl) ?_
  refine lv_iload_n hx hb dL_law_566 rfl (lv_at hl 3 rfl) ?_
  refine lv_iconst (v := (2 : Int32)) hx hb dL_law_567 (by decide) ?_
  refine lv_iadd hx hb dL_law_568 ?_
  refine va_sld hx hb hX hbl hbA hS hi2 dL_law_569 ?_
  refine lv_aload_n hx hb dL_law_570 rfl (lv_at hl 0 rfl) ?_
  refine lv_iload_n hx hb dL_law_571 rfl (lv_at hl 3 rfl) ?_
  refine lv_iconst (v := (3 : Int32)) hx hb dL_law_572 (by decide) ?_
  refine lv_iadd hx hb dL_law_573 ?_
  refine va_sld hx hb hX hbl hbA hS hi3 dL_law_574 ?_
  refine l_cVi (TT := rT g) (As := [.int (xs (i3 + (1 : Int32)).toNatClampNeg), .int (xs (i3 + (2 : Int32)).toNatClampNeg), .int (xs (i3 + (3 : Int32)).toNatClampNeg)]) (rest := [.int r]) X hl.1 hv hS hr0 (kX5_sign hg h) mw_514 fX5_sign qM rfl rfl ⟨rfl, rfl, Nat.le_of_ble_eq_true rfl, Nat.le_of_ble_eq_true rfl⟩ ⟨Nat.le_of_ble_eq_true rfl, Nat.le_of_ble_eq_true rfl⟩ rfl rfl (Nat.le_of_ble_eq_true rfl) dL_law_575 (fun r1 ρ1 H1 locs h hv hk hS => ?_)
  replace hw := wd_keep hw (fun q hq1 hq2 => hk q hq1 (hdj q hq2))
  clear hk
  generalize H1 = H at hw hv hS ⊢
  refine lv_icmp_eq (tgt := 848) hx hb dL_law_578 (by decide) (fun hc => ?_) (fun hc => ?_)
  ·
    exact hend σ1 ρ1 H locs ls h.2 hw hv hS hl
  · exact absurd h.1 hc
set_option maxRecDepth 100000 in
set_option maxHeartbeats 4000000 in
theorem law_c11 {p : Program} {l : Launch} {e : Env} {s : State} {m : MethodId} {below : List Frame} {meth : Method} {c : Code} {D : va_G} {g : mG} {Ac Ar : Nat → Prop} {b L : Nat} {xs : Nat → Int32} {Rel : CS → RS → Prop} (hg : inj g) (hL : L ≤ 2560) (hc0 : ∀ q, Ac q → s.heap.size ≤ q) (hr0 : ∀ q, Ar q → s.heap.size ≤ q) (hdj : ∀ q, Ac q → ¬ Ar q) (X : cx p m meth c s #[Value.ref b] cL_law 4 RL D (tyG g)) (hr : meth.sig.returnType = ret) (hX : va_X b L xs s s.heap) (hbl : b < s.heap.size) (hst : LawStep Rel) (σ : CS) (ρ : RS) (hRel : Rel σ ρ) (i3 : Int32) (hi1 : vp_in (i3 + (1 : Int32)) L) (hi2 : vp_in (i3 + (2 : Int32)) L) (hi3 : vp_in (i3 + (3 : Int32)) L) (hi4 : vp_in (i3 + (4 : Int32)) L)
    (hend : ∀ (σ : CS) (ρ : RS) (H : Heap) (locs : List Loc) (ls : Array Slot), Rel σ ρ → wd D Ac (cT g σ) H → wd D Ar (rT g ρ) H → va_S (fun q : Nat => s.heap.size ≤ q) s.heap H locs → lv_has ls 4 [(0, .ref b), (1, .ref (g.1 2010)), (2, .ref (g.1 5000)), (3, .int i3)] → W p l e room_1 s m #[Value.ref b] below meth c H locs 600000 7302250 (lw_Z below #[Value.ref b] s) (F0 m 848 ls []))
    (H : Heap) (locs : List Loc) (ls : Array Slot) (hw : wd D Ac (cT g σ) H) (hv : wd D Ar (rT g ρ) H) (hS : va_S (fun q : Nat => s.heap.size ≤ q) s.heap H locs) (hl : lv_has ls 4 [(0, .ref b), (1, .ref (g.1 2010)), (2, .ref (g.1 5000)), (3, .int i3)]) : W p l e room_1 s m #[Value.ref b] below meth c H locs 600000 7302250 (lw_Z below #[Value.ref b] s) (F0 m 583 ls []) := by
  obtain ⟨hx, hb, hml, hown, hts, hK, hlk⟩ := id X
  have hbA : ¬ (fun q : Nat => s.heap.size ≤ q) b := Nat.not_le.mpr hbl
  refine lv_aload_n hx hb dL_law_583 rfl (lv_at hl 1 rfl) ?_
  refine lv_aload_n hx hb dL_law_584 rfl (lv_at hl 0 rfl) ?_
  refine lv_iload_n hx hb dL_law_585 rfl (lv_at hl 3 rfl) ?_
  refine lv_iconst (v := (1 : Int32)) hx hb dL_law_586 (by decide) ?_
  refine lv_iadd hx hb dL_law_587 ?_
  refine va_sld hx hb hX hbl hbA hS hi1 dL_law_588 ?_
  refine lv_aload_n hx hb dL_law_589 rfl (lv_at hl 0 rfl) ?_
  refine lv_iload_n hx hb dL_law_590 rfl (lv_at hl 3 rfl) ?_
  refine lv_iconst (v := (2 : Int32)) hx hb dL_law_591 (by decide) ?_
  refine lv_iadd hx hb dL_law_592 ?_
  refine va_sld hx hb hX hbl hbA hS hi2 dL_law_593 ?_
  refine lv_aload_n hx hb dL_law_594 rfl (lv_at hl 0 rfl) ?_
  refine lv_iload_n hx hb dL_law_595 rfl (lv_at hl 3 rfl) ?_
  refine lv_iconst (v := (3 : Int32)) hx hb dL_law_596 (by decide) ?_
  refine lv_iadd hx hb dL_law_597 ?_
  refine va_sld hx hb hX hbl hbA hS hi3 dL_law_598 ?_
  have h := hst.2.2.2.2.2.2.2.2.2.2.2.1 σ ρ hRel (xs (i3 + (1 : Int32)).toNatClampNeg) (xs (i3 + (2 : Int32)).toNatClampNeg) (xs (i3 + (3 : Int32)).toNatClampNeg)
  refine l_cVi (TT := cT g) (As := [.int (xs (i3 + (1 : Int32)).toNatClampNeg), .int (xs (i3 + (2 : Int32)).toNatClampNeg), .int (xs (i3 + (3 : Int32)).toNatClampNeg)]) (rest := []) X hl.1 hw hS hc0 (kX4_roots hg h) mw_522 fX4_roots tG rfl rfl ⟨rfl, rfl, Nat.le_of_ble_eq_true rfl, Nat.le_of_ble_eq_true rfl⟩ ⟨Nat.le_of_ble_eq_true rfl, Nat.le_of_ble_eq_true rfl⟩ rfl rfl (Nat.le_of_ble_eq_true rfl) dL_law_599 (fun r σ1 H1 locs h hw hk hS => ?_)
  replace hv := wd_keep hv (fun q hq1 hq2 => hk q hq1 (fun z => hdj q z hq2))
  clear hk
  generalize H1 = H at hw hv hS ⊢
  refine lv_aload_n hx hb dL_law_602 rfl (lv_at hl 2 rfl) ?_
  refine lv_aload_n hx hb dL_law_603 rfl (lv_at hl 0 rfl) ?_
  refine lv_iload_n hx hb dL_law_604 rfl (lv_at hl 3 rfl) ?_
  refine lv_iconst (v := (1 : Int32)) hx hb dL_law_605 (by decide) ?_
  refine lv_iadd hx hb dL_law_606 ?_
  refine va_sld hx hb hX hbl hbA hS hi1 dL_law_607 ?_
  refine lv_aload_n hx hb dL_law_608 rfl (lv_at hl 0 rfl) ?_
  refine lv_iload_n hx hb dL_law_609 rfl (lv_at hl 3 rfl) ?_
  refine lv_iconst (v := (2 : Int32)) hx hb dL_law_610 (by decide) ?_
  refine lv_iadd hx hb dL_law_611 ?_
  refine va_sld hx hb hX hbl hbA hS hi2 dL_law_612 ?_
  refine lv_aload_n hx hb dL_law_613 rfl (lv_at hl 0 rfl) ?_
  refine lv_iload_n hx hb dL_law_614 rfl (lv_at hl 3 rfl) ?_
  refine lv_iconst (v := (3 : Int32)) hx hb dL_law_615 (by decide) ?_
  refine lv_iadd hx hb dL_law_616 ?_
  refine va_sld hx hb hX hbl hbA hS hi3 dL_law_617 ?_
  refine l_cVi (TT := rT g) (As := [.int (xs (i3 + (1 : Int32)).toNatClampNeg), .int (xs (i3 + (2 : Int32)).toNatClampNeg), .int (xs (i3 + (3 : Int32)).toNatClampNeg)]) (rest := [.int r]) X hl.1 hv hS hr0 (kX5_roots hg h) mw_540 fX5_roots qM rfl rfl ⟨rfl, rfl, Nat.le_of_ble_eq_true rfl, Nat.le_of_ble_eq_true rfl⟩ ⟨Nat.le_of_ble_eq_true rfl, Nat.le_of_ble_eq_true rfl⟩ rfl rfl (Nat.le_of_ble_eq_true rfl) dL_law_618 (fun r1 ρ1 H1 locs h hv hk hS => ?_)
  replace hw := wd_keep hw (fun q hq1 hq2 => hk q hq1 (hdj q hq2))
  clear hk
  generalize H1 = H at hw hv hS ⊢
  refine lv_icmp_eq (tgt := 848) hx hb dL_law_621 (by decide) (fun hc => ?_) (fun hc => ?_)
  ·
    exact hend σ1 ρ1 H locs ls h.2 hw hv hS hl
  · exact absurd h.1 hc
set_option maxRecDepth 100000 in
set_option maxHeartbeats 4000000 in
theorem law_c12 {p : Program} {l : Launch} {e : Env} {s : State} {m : MethodId} {below : List Frame} {meth : Method} {c : Code} {D : va_G} {g : mG} {Ac Ar : Nat → Prop} {b L : Nat} {xs : Nat → Int32} {Rel : CS → RS → Prop} (hg : inj g) (hL : L ≤ 2560) (hc0 : ∀ q, Ac q → s.heap.size ≤ q) (hr0 : ∀ q, Ar q → s.heap.size ≤ q) (hdj : ∀ q, Ac q → ¬ Ar q) (X : cx p m meth c s #[Value.ref b] cL_law 4 RL D (tyG g)) (hr : meth.sig.returnType = ret) (hX : va_X b L xs s s.heap) (hbl : b < s.heap.size) (hst : LawStep Rel) (σ : CS) (ρ : RS) (hRel : Rel σ ρ) (i3 : Int32) (hi1 : vp_in (i3 + (1 : Int32)) L) (hi2 : vp_in (i3 + (2 : Int32)) L) (hi3 : vp_in (i3 + (3 : Int32)) L) (hi4 : vp_in (i3 + (4 : Int32)) L)
    (hend : ∀ (σ : CS) (ρ : RS) (H : Heap) (locs : List Loc) (ls : Array Slot), Rel σ ρ → wd D Ac (cT g σ) H → wd D Ar (rT g ρ) H → va_S (fun q : Nat => s.heap.size ≤ q) s.heap H locs → lv_has ls 4 [(0, .ref b), (1, .ref (g.1 2010)), (2, .ref (g.1 5000)), (3, .int i3)] → W p l e room_1 s m #[Value.ref b] below meth c H locs 600000 7302250 (lw_Z below #[Value.ref b] s) (F0 m 848 ls []))
    (H : Heap) (locs : List Loc) (ls : Array Slot) (hw : wd D Ac (cT g σ) H) (hv : wd D Ar (rT g ρ) H) (hS : va_S (fun q : Nat => s.heap.size ≤ q) s.heap H locs) (hl : lv_has ls 4 [(0, .ref b), (1, .ref (g.1 2010)), (2, .ref (g.1 5000)), (3, .int i3)]) : W p l e room_1 s m #[Value.ref b] below meth c H locs 600000 7302250 (lw_Z below #[Value.ref b] s) (F0 m 626 ls []) := by
  obtain ⟨hx, hb, hml, hown, hts, hK, hlk⟩ := id X
  have hbA : ¬ (fun q : Nat => s.heap.size ≤ q) b := Nat.not_le.mpr hbl
  refine lv_aload_n hx hb dL_law_626 rfl (lv_at hl 1 rfl) ?_
  refine lv_aload_n hx hb dL_law_627 rfl (lv_at hl 0 rfl) ?_
  refine lv_iload_n hx hb dL_law_628 rfl (lv_at hl 3 rfl) ?_
  refine lv_iconst (v := (1 : Int32)) hx hb dL_law_629 (by decide) ?_
  refine lv_iadd hx hb dL_law_630 ?_
  refine va_sld hx hb hX hbl hbA hS hi1 dL_law_631 ?_
  have h := hst.2.2.2.2.2.2.2.2.2.2.2.2.1 σ ρ hRel (xs (i3 + (1 : Int32)).toNatClampNeg)
  refine l_cVi (TT := cT g) (As := [.int (xs (i3 + (1 : Int32)).toNatClampNeg)]) (rest := []) X hl.1 hw hS hc0 (kX4_allRoots hg h) mw_553 fX4_allRoots tG rfl rfl ⟨rfl, rfl, Nat.le_of_ble_eq_true rfl, Nat.le_of_ble_eq_true rfl⟩ ⟨Nat.le_of_ble_eq_true rfl, Nat.le_of_ble_eq_true rfl⟩ rfl rfl (Nat.le_of_ble_eq_true rfl) dL_law_632 (fun r σ1 H1 locs h hw hk hS => ?_)
  replace hv := wd_keep hv (fun q hq1 hq2 => hk q hq1 (fun z => hdj q z hq2))
  clear hk
  generalize H1 = H at hw hv hS ⊢
  refine lv_aload_n hx hb dL_law_635 rfl (lv_at hl 2 rfl) ?_
  refine lv_aload_n hx hb dL_law_636 rfl (lv_at hl 0 rfl) ?_
  refine lv_iload_n hx hb dL_law_637 rfl (lv_at hl 3 rfl) ?_
  refine lv_iconst (v := (1 : Int32)) hx hb dL_law_638 (by decide) ?_
  refine lv_iadd hx hb dL_law_639 ?_
  refine va_sld hx hb hX hbl hbA hS hi1 dL_law_640 ?_
  refine l_cVi (TT := rT g) (As := [.int (xs (i3 + (1 : Int32)).toNatClampNeg)]) (rest := [.int r]) X hl.1 hv hS hr0 (kX5_allRoots hg h) mw_558 fX5_allRoots qM rfl rfl ⟨rfl, rfl, Nat.le_of_ble_eq_true rfl, Nat.le_of_ble_eq_true rfl⟩ ⟨Nat.le_of_ble_eq_true rfl, Nat.le_of_ble_eq_true rfl⟩ rfl rfl (Nat.le_of_ble_eq_true rfl) dL_law_641 (fun r1 ρ1 H1 locs h hv hk hS => ?_)
  replace hw := wd_keep hw (fun q hq1 hq2 => hk q hq1 (hdj q hq2))
  clear hk
  generalize H1 = H at hw hv hS ⊢
  refine lv_icmp_eq (tgt := 848) hx hb dL_law_644 (by decide) (fun hc => ?_) (fun hc => ?_)
  ·
    exact hend σ1 ρ1 H locs ls h.2 hw hv hS hl
  · exact absurd h.1 hc
set_option maxRecDepth 100000 in
set_option maxHeartbeats 4000000 in
theorem law_c13 {p : Program} {l : Launch} {e : Env} {s : State} {m : MethodId} {below : List Frame} {meth : Method} {c : Code} {D : va_G} {g : mG} {Ac Ar : Nat → Prop} {b L : Nat} {xs : Nat → Int32} {Rel : CS → RS → Prop} (hg : inj g) (hL : L ≤ 2560) (hc0 : ∀ q, Ac q → s.heap.size ≤ q) (hr0 : ∀ q, Ar q → s.heap.size ≤ q) (hdj : ∀ q, Ac q → ¬ Ar q) (X : cx p m meth c s #[Value.ref b] cL_law 4 RL D (tyG g)) (hr : meth.sig.returnType = ret) (hX : va_X b L xs s s.heap) (hbl : b < s.heap.size) (hst : LawStep Rel) (σ : CS) (ρ : RS) (hRel : Rel σ ρ) (i3 : Int32) (hi1 : vp_in (i3 + (1 : Int32)) L) (hi2 : vp_in (i3 + (2 : Int32)) L) (hi3 : vp_in (i3 + (3 : Int32)) L) (hi4 : vp_in (i3 + (4 : Int32)) L)
    (hend : ∀ (σ : CS) (ρ : RS) (H : Heap) (locs : List Loc) (ls : Array Slot), Rel σ ρ → wd D Ac (cT g σ) H → wd D Ar (rT g ρ) H → va_S (fun q : Nat => s.heap.size ≤ q) s.heap H locs → lv_has ls 4 [(0, .ref b), (1, .ref (g.1 2010)), (2, .ref (g.1 5000)), (3, .int i3)] → W p l e room_1 s m #[Value.ref b] below meth c H locs 600000 7302250 (lw_Z below #[Value.ref b] s) (F0 m 848 ls []))
    (H : Heap) (locs : List Loc) (ls : Array Slot) (hw : wd D Ac (cT g σ) H) (hv : wd D Ar (rT g ρ) H) (hS : va_S (fun q : Nat => s.heap.size ≤ q) s.heap H locs) (hl : lv_has ls 4 [(0, .ref b), (1, .ref (g.1 2010)), (2, .ref (g.1 5000)), (3, .int i3)]) : W p l e room_1 s m #[Value.ref b] below meth c H locs 600000 7302250 (lw_Z below #[Value.ref b] s) (F0 m 649 ls []) := by
  obtain ⟨hx, hb, hml, hown, hts, hK, hlk⟩ := id X
  have hbA : ¬ (fun q : Nat => s.heap.size ≤ q) b := Nat.not_le.mpr hbl
  refine lv_aload_n hx hb dL_law_649 rfl (lv_at hl 1 rfl) ?_
  refine lv_aload_n hx hb dL_law_650 rfl (lv_at hl 0 rfl) ?_
  refine lv_iload_n hx hb dL_law_651 rfl (lv_at hl 3 rfl) ?_
  refine lv_iconst (v := (1 : Int32)) hx hb dL_law_652 (by decide) ?_
  refine lv_iadd hx hb dL_law_653 ?_
  refine va_sld hx hb hX hbl hbA hS hi1 dL_law_654 ?_
  refine lv_aload_n hx hb dL_law_655 rfl (lv_at hl 0 rfl) ?_
  refine lv_iload_n hx hb dL_law_656 rfl (lv_at hl 3 rfl) ?_
  refine lv_iconst (v := (2 : Int32)) hx hb dL_law_657 (by decide) ?_
  refine lv_iadd hx hb dL_law_658 ?_
  refine va_sld hx hb hX hbl hbA hS hi2 dL_law_659 ?_
  have h := hst.2.2.2.2.2.2.2.2.2.2.2.2.2.1 σ ρ hRel (xs (i3 + (1 : Int32)).toNatClampNeg) (xs (i3 + (2 : Int32)).toNatClampNeg)
  refine l_cVl (TT := cT g) (As := [.int (xs (i3 + (1 : Int32)).toNatClampNeg), .int (xs (i3 + (2 : Int32)).toNatClampNeg)]) (rest := []) X hl.1 hw hS hc0 (kX4_place hg h) mw_566 fX4_place tG rfl rfl ⟨rfl, rfl, Nat.le_of_ble_eq_true rfl, Nat.le_of_ble_eq_true rfl⟩ ⟨Nat.le_of_ble_eq_true rfl, Nat.le_of_ble_eq_true rfl⟩ rfl rfl (Nat.le_of_ble_eq_true rfl) dL_law_660 (fun r σ1 H1 locs h hw hk hS => ?_)
  replace hv := wd_keep hv (fun q hq1 hq2 => hk q hq1 (fun z => hdj q z hq2))
  clear hk
  generalize H1 = H at hw hv hS ⊢
  refine lv_aload_n hx hb dL_law_663 rfl (lv_at hl 2 rfl) ?_
  refine lv_aload_n hx hb dL_law_664 rfl (lv_at hl 0 rfl) ?_
  refine lv_iload_n hx hb dL_law_665 rfl (lv_at hl 3 rfl) ?_
  refine lv_iconst (v := (1 : Int32)) hx hb dL_law_666 (by decide) ?_
  refine lv_iadd hx hb dL_law_667 ?_
  refine va_sld hx hb hX hbl hbA hS hi1 dL_law_668 ?_
  refine lv_aload_n hx hb dL_law_669 rfl (lv_at hl 0 rfl) ?_
  refine lv_iload_n hx hb dL_law_670 rfl (lv_at hl 3 rfl) ?_
  refine lv_iconst (v := (2 : Int32)) hx hb dL_law_671 (by decide) ?_
  refine lv_iadd hx hb dL_law_672 ?_
  refine va_sld hx hb hX hbl hbA hS hi2 dL_law_673 ?_
  refine l_cVl (TT := rT g) (As := [.int (xs (i3 + (1 : Int32)).toNatClampNeg), .int (xs (i3 + (2 : Int32)).toNatClampNeg)]) (rest := [.long r]) X hl.1 hv hS hr0 (kX5_place hg h) mw_585 fX5_place qM rfl rfl ⟨rfl, rfl, Nat.le_of_ble_eq_true rfl, Nat.le_of_ble_eq_true rfl⟩ ⟨Nat.le_of_ble_eq_true rfl, Nat.le_of_ble_eq_true rfl⟩ rfl rfl (Nat.le_of_ble_eq_true rfl) dL_law_674 (fun r1 ρ1 H1 locs h hv hk hS => ?_)
  replace hw := wd_keep hw (fun q hq1 hq2 => hk q hq1 (hdj q hq2))
  clear hk
  generalize H1 = H at hw hv hS ⊢
  refine W.lcmp hx hb dL_law_677 ?_
  refine lv_if_eq (tgt := 848) hx hb dL_law_678 (by decide) (fun hc => ?_) (fun hc => ?_)
  ·
    exact hend σ1 ρ1 H locs ls h.2 hw hv hS hl
  · exact absurd (by rw [h.1]; unfold lg_cmp; simp) hc
set_option maxRecDepth 100000 in
set_option maxHeartbeats 4000000 in
theorem law_c14 {p : Program} {l : Launch} {e : Env} {s : State} {m : MethodId} {below : List Frame} {meth : Method} {c : Code} {D : va_G} {g : mG} {Ac Ar : Nat → Prop} {b L : Nat} {xs : Nat → Int32} {Rel : CS → RS → Prop} (hg : inj g) (hL : L ≤ 2560) (hc0 : ∀ q, Ac q → s.heap.size ≤ q) (hr0 : ∀ q, Ar q → s.heap.size ≤ q) (hdj : ∀ q, Ac q → ¬ Ar q) (X : cx p m meth c s #[Value.ref b] cL_law 4 RL D (tyG g)) (hr : meth.sig.returnType = ret) (hX : va_X b L xs s s.heap) (hbl : b < s.heap.size) (hst : LawStep Rel) (σ : CS) (ρ : RS) (hRel : Rel σ ρ) (i3 : Int32) (hi1 : vp_in (i3 + (1 : Int32)) L) (hi2 : vp_in (i3 + (2 : Int32)) L) (hi3 : vp_in (i3 + (3 : Int32)) L) (hi4 : vp_in (i3 + (4 : Int32)) L)
    (hend : ∀ (σ : CS) (ρ : RS) (H : Heap) (locs : List Loc) (ls : Array Slot), Rel σ ρ → wd D Ac (cT g σ) H → wd D Ar (rT g ρ) H → va_S (fun q : Nat => s.heap.size ≤ q) s.heap H locs → lv_has ls 4 [(0, .ref b), (1, .ref (g.1 2010)), (2, .ref (g.1 5000)), (3, .int i3)] → W p l e room_1 s m #[Value.ref b] below meth c H locs 600000 7302250 (lw_Z below #[Value.ref b] s) (F0 m 848 ls []))
    (H : Heap) (locs : List Loc) (ls : Array Slot) (hw : wd D Ac (cT g σ) H) (hv : wd D Ar (rT g ρ) H) (hS : va_S (fun q : Nat => s.heap.size ≤ q) s.heap H locs) (hl : lv_has ls 4 [(0, .ref b), (1, .ref (g.1 2010)), (2, .ref (g.1 5000)), (3, .int i3)]) : W p l e room_1 s m #[Value.ref b] below meth c H locs 600000 7302250 (lw_Z below #[Value.ref b] s) (F0 m 683 ls []) := by
  obtain ⟨hx, hb, hml, hown, hts, hK, hlk⟩ := id X
  have hbA : ¬ (fun q : Nat => s.heap.size ≤ q) b := Nat.not_le.mpr hbl
  refine lv_aload_n hx hb dL_law_683 rfl (lv_at hl 1 rfl) ?_
  refine lv_aload_n hx hb dL_law_684 rfl (lv_at hl 0 rfl) ?_
  refine lv_iload_n hx hb dL_law_685 rfl (lv_at hl 3 rfl) ?_
  refine lv_iconst (v := (1 : Int32)) hx hb dL_law_686 (by decide) ?_
  refine lv_iadd hx hb dL_law_687 ?_
  refine va_sld hx hb hX hbl hbA hS hi1 dL_law_688 ?_
  have h := hst.2.2.2.2.2.2.2.2.2.2.2.2.2.2.1 σ ρ hRel (xs (i3 + (1 : Int32)).toNatClampNeg)
  refine l_cVi (TT := cT g) (As := [.int (xs (i3 + (1 : Int32)).toNatClampNeg)]) (rest := []) X hl.1 hw hS hc0 (kX4_degree hg h) mw_596 fX4_degree tG rfl rfl ⟨rfl, rfl, Nat.le_of_ble_eq_true rfl, Nat.le_of_ble_eq_true rfl⟩ ⟨Nat.le_of_ble_eq_true rfl, Nat.le_of_ble_eq_true rfl⟩ rfl rfl (Nat.le_of_ble_eq_true rfl) dL_law_689 (fun r σ1 H1 locs h hw hk hS => ?_)
  replace hv := wd_keep hv (fun q hq1 hq2 => hk q hq1 (fun z => hdj q z hq2))
  clear hk
  generalize H1 = H at hw hv hS ⊢
  refine lv_aload_n hx hb dL_law_692 rfl (lv_at hl 2 rfl) ?_
  refine lv_aload_n hx hb dL_law_693 rfl (lv_at hl 0 rfl) ?_
  refine lv_iload_n hx hb dL_law_694 rfl (lv_at hl 3 rfl) ?_
  refine lv_iconst (v := (1 : Int32)) hx hb dL_law_695 (by decide) ?_
  refine lv_iadd hx hb dL_law_696 ?_
  refine va_sld hx hb hX hbl hbA hS hi1 dL_law_697 ?_
  refine l_cVi (TT := rT g) (As := [.int (xs (i3 + (1 : Int32)).toNatClampNeg)]) (rest := [.int r]) X hl.1 hv hS hr0 (kX5_degree hg h) mw_600 fX5_degree qM rfl rfl ⟨rfl, rfl, Nat.le_of_ble_eq_true rfl, Nat.le_of_ble_eq_true rfl⟩ ⟨Nat.le_of_ble_eq_true rfl, Nat.le_of_ble_eq_true rfl⟩ rfl rfl (Nat.le_of_ble_eq_true rfl) dL_law_698 (fun r1 ρ1 H1 locs h hv hk hS => ?_)
  replace hw := wd_keep hw (fun q hq1 hq2 => hk q hq1 (hdj q hq2))
  clear hk
  generalize H1 = H at hw hv hS ⊢
  refine lv_icmp_eq (tgt := 848) hx hb dL_law_701 (by decide) (fun hc => ?_) (fun hc => ?_)
  ·
    exact hend σ1 ρ1 H locs ls h.2 hw hv hS hl
  · exact absurd h.1 hc
set_option maxRecDepth 100000 in
set_option maxHeartbeats 4000000 in
theorem law_c15 {p : Program} {l : Launch} {e : Env} {s : State} {m : MethodId} {below : List Frame} {meth : Method} {c : Code} {D : va_G} {g : mG} {Ac Ar : Nat → Prop} {b L : Nat} {xs : Nat → Int32} {Rel : CS → RS → Prop} (hg : inj g) (hL : L ≤ 2560) (hc0 : ∀ q, Ac q → s.heap.size ≤ q) (hr0 : ∀ q, Ar q → s.heap.size ≤ q) (hdj : ∀ q, Ac q → ¬ Ar q) (X : cx p m meth c s #[Value.ref b] cL_law 4 RL D (tyG g)) (hr : meth.sig.returnType = ret) (hX : va_X b L xs s s.heap) (hbl : b < s.heap.size) (hst : LawStep Rel) (σ : CS) (ρ : RS) (hRel : Rel σ ρ) (i3 : Int32) (hi1 : vp_in (i3 + (1 : Int32)) L) (hi2 : vp_in (i3 + (2 : Int32)) L) (hi3 : vp_in (i3 + (3 : Int32)) L) (hi4 : vp_in (i3 + (4 : Int32)) L)
    (hend : ∀ (σ : CS) (ρ : RS) (H : Heap) (locs : List Loc) (ls : Array Slot), Rel σ ρ → wd D Ac (cT g σ) H → wd D Ar (rT g ρ) H → va_S (fun q : Nat => s.heap.size ≤ q) s.heap H locs → lv_has ls 4 [(0, .ref b), (1, .ref (g.1 2010)), (2, .ref (g.1 5000)), (3, .int i3)] → W p l e room_1 s m #[Value.ref b] below meth c H locs 600000 7302250 (lw_Z below #[Value.ref b] s) (F0 m 848 ls []))
    (H : Heap) (locs : List Loc) (ls : Array Slot) (hw : wd D Ac (cT g σ) H) (hv : wd D Ar (rT g ρ) H) (hS : va_S (fun q : Nat => s.heap.size ≤ q) s.heap H locs) (hl : lv_has ls 4 [(0, .ref b), (1, .ref (g.1 2010)), (2, .ref (g.1 5000)), (3, .int i3)]) : W p l e room_1 s m #[Value.ref b] below meth c H locs 600000 7302250 (lw_Z below #[Value.ref b] s) (F0 m 706 ls []) := by
  obtain ⟨hx, hb, hml, hown, hts, hK, hlk⟩ := id X
  have hbA : ¬ (fun q : Nat => s.heap.size ≤ q) b := Nat.not_le.mpr hbl
  refine lv_aload_n hx hb dL_law_706 rfl (lv_at hl 1 rfl) ?_
  refine lv_aload_n hx hb dL_law_707 rfl (lv_at hl 0 rfl) ?_
  refine lv_iload_n hx hb dL_law_708 rfl (lv_at hl 3 rfl) ?_
  refine lv_iconst (v := (1 : Int32)) hx hb dL_law_709 (by decide) ?_
  refine lv_iadd hx hb dL_law_710 ?_
  refine va_sld hx hb hX hbl hbA hS hi1 dL_law_711 ?_
  refine lv_aload_n hx hb dL_law_712 rfl (lv_at hl 0 rfl) ?_
  refine lv_iload_n hx hb dL_law_713 rfl (lv_at hl 3 rfl) ?_
  refine lv_iconst (v := (2 : Int32)) hx hb dL_law_714 (by decide) ?_
  refine lv_iadd hx hb dL_law_715 ?_
  refine va_sld hx hb hX hbl hbA hS hi2 dL_law_716 ?_
  have h := hst.2.2.2.2.2.2.2.2.2.2.2.2.2.2.2.1 σ ρ hRel (xs (i3 + (1 : Int32)).toNatClampNeg) (xs (i3 + (2 : Int32)).toNatClampNeg)
  refine l_cVi (TT := cT g) (As := [.int (xs (i3 + (1 : Int32)).toNatClampNeg), .int (xs (i3 + (2 : Int32)).toNatClampNeg)]) (rest := []) X hl.1 hw hS hc0 (kX4_signOf hg h) mw_604 fX4_signOf tG rfl rfl ⟨rfl, rfl, Nat.le_of_ble_eq_true rfl, Nat.le_of_ble_eq_true rfl⟩ ⟨Nat.le_of_ble_eq_true rfl, Nat.le_of_ble_eq_true rfl⟩ rfl rfl (Nat.le_of_ble_eq_true rfl) dL_law_717 (fun r σ1 H1 locs h hw hk hS => ?_)
  replace hv := wd_keep hv (fun q hq1 hq2 => hk q hq1 (fun z => hdj q z hq2))
  clear hk
  generalize H1 = H at hw hv hS ⊢
  refine lv_aload_n hx hb dL_law_720 rfl (lv_at hl 2 rfl) ?_
  refine lv_aload_n hx hb dL_law_721 rfl (lv_at hl 0 rfl) ?_
  refine lv_iload_n hx hb dL_law_722 rfl (lv_at hl 3 rfl) ?_
  refine lv_iconst (v := (1 : Int32)) hx hb dL_law_723 (by decide) ?_
  refine lv_iadd hx hb dL_law_724 ?_
  refine va_sld hx hb hX hbl hbA hS hi1 dL_law_725 ?_
  refine lv_aload_n hx hb dL_law_726 rfl (lv_at hl 0 rfl) ?_
  refine lv_iload_n hx hb dL_law_727 rfl (lv_at hl 3 rfl) ?_
  refine lv_iconst (v := (2 : Int32)) hx hb dL_law_728 (by decide) ?_
  refine lv_iadd hx hb dL_law_729 ?_
  refine va_sld hx hb hX hbl hbA hS hi2 dL_law_730 ?_
  refine l_cVi (TT := rT g) (As := [.int (xs (i3 + (1 : Int32)).toNatClampNeg), .int (xs (i3 + (2 : Int32)).toNatClampNeg)]) (rest := [.int r]) X hl.1 hv hS hr0 (kX5_signOf hg h) mw_608 fX5_signOf qM rfl rfl ⟨rfl, rfl, Nat.le_of_ble_eq_true rfl, Nat.le_of_ble_eq_true rfl⟩ ⟨Nat.le_of_ble_eq_true rfl, Nat.le_of_ble_eq_true rfl⟩ rfl rfl (Nat.le_of_ble_eq_true rfl) dL_law_731 (fun r1 ρ1 H1 locs h hv hk hS => ?_)
  replace hw := wd_keep hw (fun q hq1 hq2 => hk q hq1 (hdj q hq2))
  clear hk
  generalize H1 = H at hw hv hS ⊢
  refine lv_icmp_eq (tgt := 848) hx hb dL_law_734 (by decide) (fun hc => ?_) (fun hc => ?_)
  ·
    exact hend σ1 ρ1 H locs ls h.2 hw hv hS hl
  · exact absurd h.1 hc
set_option maxRecDepth 100000 in
set_option maxHeartbeats 4000000 in
theorem law_c16 {p : Program} {l : Launch} {e : Env} {s : State} {m : MethodId} {below : List Frame} {meth : Method} {c : Code} {D : va_G} {g : mG} {Ac Ar : Nat → Prop} {b L : Nat} {xs : Nat → Int32} {Rel : CS → RS → Prop} (hg : inj g) (hL : L ≤ 2560) (hc0 : ∀ q, Ac q → s.heap.size ≤ q) (hr0 : ∀ q, Ar q → s.heap.size ≤ q) (hdj : ∀ q, Ac q → ¬ Ar q) (X : cx p m meth c s #[Value.ref b] cL_law 4 RL D (tyG g)) (hr : meth.sig.returnType = ret) (hX : va_X b L xs s s.heap) (hbl : b < s.heap.size) (hst : LawStep Rel) (σ : CS) (ρ : RS) (hRel : Rel σ ρ) (i3 : Int32) (hi1 : vp_in (i3 + (1 : Int32)) L) (hi2 : vp_in (i3 + (2 : Int32)) L) (hi3 : vp_in (i3 + (3 : Int32)) L) (hi4 : vp_in (i3 + (4 : Int32)) L)
    (hend : ∀ (σ : CS) (ρ : RS) (H : Heap) (locs : List Loc) (ls : Array Slot), Rel σ ρ → wd D Ac (cT g σ) H → wd D Ar (rT g ρ) H → va_S (fun q : Nat => s.heap.size ≤ q) s.heap H locs → lv_has ls 4 [(0, .ref b), (1, .ref (g.1 2010)), (2, .ref (g.1 5000)), (3, .int i3)] → W p l e room_1 s m #[Value.ref b] below meth c H locs 600000 7302250 (lw_Z below #[Value.ref b] s) (F0 m 848 ls []))
    (H : Heap) (locs : List Loc) (ls : Array Slot) (hw : wd D Ac (cT g σ) H) (hv : wd D Ar (rT g ρ) H) (hS : va_S (fun q : Nat => s.heap.size ≤ q) s.heap H locs) (hl : lv_has ls 4 [(0, .ref b), (1, .ref (g.1 2010)), (2, .ref (g.1 5000)), (3, .int i3)]) : W p l e room_1 s m #[Value.ref b] below meth c H locs 600000 7302250 (lw_Z below #[Value.ref b] s) (F0 m 739 ls []) := by
  obtain ⟨hx, hb, hml, hown, hts, hK, hlk⟩ := id X
  have hbA : ¬ (fun q : Nat => s.heap.size ≤ q) b := Nat.not_le.mpr hbl
  refine lv_aload_n hx hb dL_law_739 rfl (lv_at hl 1 rfl) ?_
  refine lv_aload_n hx hb dL_law_740 rfl (lv_at hl 0 rfl) ?_
  refine lv_iload_n hx hb dL_law_741 rfl (lv_at hl 3 rfl) ?_
  refine lv_iconst (v := (1 : Int32)) hx hb dL_law_742 (by decide) ?_
  refine lv_iadd hx hb dL_law_743 ?_
  refine va_sld hx hb hX hbl hbA hS hi1 dL_law_744 ?_
  refine lv_aload_n hx hb dL_law_745 rfl (lv_at hl 0 rfl) ?_
  refine lv_iload_n hx hb dL_law_746 rfl (lv_at hl 3 rfl) ?_
  refine lv_iconst (v := (2 : Int32)) hx hb dL_law_747 (by decide) ?_
  refine lv_iadd hx hb dL_law_748 ?_
  refine va_sld hx hb hX hbl hbA hS hi2 dL_law_749 ?_
  have h := hst.2.2.2.2.2.2.2.2.2.2.2.2.2.2.2.2.1 σ ρ hRel (xs (i3 + (1 : Int32)).toNatClampNeg) (xs (i3 + (2 : Int32)).toNatClampNeg)
  refine l_cVi (TT := cT g) (As := [.int (xs (i3 + (1 : Int32)).toNatClampNeg), .int (xs (i3 + (2 : Int32)).toNatClampNeg)]) (rest := []) X hl.1 hw hS hc0 (kX4_words hg h) mw_612 fX4_words tG rfl rfl ⟨rfl, rfl, Nat.le_of_ble_eq_true rfl, Nat.le_of_ble_eq_true rfl⟩ ⟨Nat.le_of_ble_eq_true rfl, Nat.le_of_ble_eq_true rfl⟩ rfl rfl (Nat.le_of_ble_eq_true rfl) dL_law_750 (fun r σ1 H1 locs h hw hk hS => ?_)
  replace hv := wd_keep hv (fun q hq1 hq2 => hk q hq1 (fun z => hdj q z hq2))
  clear hk
  generalize H1 = H at hw hv hS ⊢
  refine lv_aload_n hx hb dL_law_753 rfl (lv_at hl 2 rfl) ?_
  refine lv_aload_n hx hb dL_law_754 rfl (lv_at hl 0 rfl) ?_
  refine lv_iload_n hx hb dL_law_755 rfl (lv_at hl 3 rfl) ?_
  refine lv_iconst (v := (1 : Int32)) hx hb dL_law_756 (by decide) ?_
  refine lv_iadd hx hb dL_law_757 ?_
  refine va_sld hx hb hX hbl hbA hS hi1 dL_law_758 ?_
  refine lv_aload_n hx hb dL_law_759 rfl (lv_at hl 0 rfl) ?_
  refine lv_iload_n hx hb dL_law_760 rfl (lv_at hl 3 rfl) ?_
  refine lv_iconst (v := (2 : Int32)) hx hb dL_law_761 (by decide) ?_
  refine lv_iadd hx hb dL_law_762 ?_
  refine va_sld hx hb hX hbl hbA hS hi2 dL_law_763 ?_
  refine l_cVi (TT := rT g) (As := [.int (xs (i3 + (1 : Int32)).toNatClampNeg), .int (xs (i3 + (2 : Int32)).toNatClampNeg)]) (rest := [.int r]) X hl.1 hv hS hr0 (kX5_words hg h) mw_616 fX5_words qM rfl rfl ⟨rfl, rfl, Nat.le_of_ble_eq_true rfl, Nat.le_of_ble_eq_true rfl⟩ ⟨Nat.le_of_ble_eq_true rfl, Nat.le_of_ble_eq_true rfl⟩ rfl rfl (Nat.le_of_ble_eq_true rfl) dL_law_764 (fun r1 ρ1 H1 locs h hv hk hS => ?_)
  replace hw := wd_keep hw (fun q hq1 hq2 => hk q hq1 (hdj q hq2))
  clear hk
  generalize H1 = H at hw hv hS ⊢
  refine lv_icmp_eq (tgt := 848) hx hb dL_law_767 (by decide) (fun hc => ?_) (fun hc => ?_)
  ·
    exact hend σ1 ρ1 H locs ls h.2 hw hv hS hl
  · exact absurd h.1 hc
set_option maxRecDepth 100000 in
set_option maxHeartbeats 4000000 in
theorem law_c17 {p : Program} {l : Launch} {e : Env} {s : State} {m : MethodId} {below : List Frame} {meth : Method} {c : Code} {D : va_G} {g : mG} {Ac Ar : Nat → Prop} {b L : Nat} {xs : Nat → Int32} {Rel : CS → RS → Prop} (hg : inj g) (hL : L ≤ 2560) (hc0 : ∀ q, Ac q → s.heap.size ≤ q) (hr0 : ∀ q, Ar q → s.heap.size ≤ q) (hdj : ∀ q, Ac q → ¬ Ar q) (X : cx p m meth c s #[Value.ref b] cL_law 4 RL D (tyG g)) (hr : meth.sig.returnType = ret) (hX : va_X b L xs s s.heap) (hbl : b < s.heap.size) (hst : LawStep Rel) (σ : CS) (ρ : RS) (hRel : Rel σ ρ) (i3 : Int32) (hi1 : vp_in (i3 + (1 : Int32)) L) (hi2 : vp_in (i3 + (2 : Int32)) L) (hi3 : vp_in (i3 + (3 : Int32)) L) (hi4 : vp_in (i3 + (4 : Int32)) L)
    (hend : ∀ (σ : CS) (ρ : RS) (H : Heap) (locs : List Loc) (ls : Array Slot), Rel σ ρ → wd D Ac (cT g σ) H → wd D Ar (rT g ρ) H → va_S (fun q : Nat => s.heap.size ≤ q) s.heap H locs → lv_has ls 4 [(0, .ref b), (1, .ref (g.1 2010)), (2, .ref (g.1 5000)), (3, .int i3)] → W p l e room_1 s m #[Value.ref b] below meth c H locs 600000 7302250 (lw_Z below #[Value.ref b] s) (F0 m 848 ls []))
    (H : Heap) (locs : List Loc) (ls : Array Slot) (hw : wd D Ac (cT g σ) H) (hv : wd D Ar (rT g ρ) H) (hS : va_S (fun q : Nat => s.heap.size ≤ q) s.heap H locs) (hl : lv_has ls 4 [(0, .ref b), (1, .ref (g.1 2010)), (2, .ref (g.1 5000)), (3, .int i3)]) : W p l e room_1 s m #[Value.ref b] below meth c H locs 600000 7302250 (lw_Z below #[Value.ref b] s) (F0 m 772 ls []) := by
  obtain ⟨hx, hb, hml, hown, hts, hK, hlk⟩ := id X
  have hbA : ¬ (fun q : Nat => s.heap.size ≤ q) b := Nat.not_le.mpr hbl
  refine lv_aload_n hx hb dL_law_772 rfl (lv_at hl 1 rfl) ?_
  refine lv_aload_n hx hb dL_law_773 rfl (lv_at hl 0 rfl) ?_
  refine lv_iload_n hx hb dL_law_774 rfl (lv_at hl 3 rfl) ?_
  refine lv_iconst (v := (1 : Int32)) hx hb dL_law_775 (by decide) ?_
  refine lv_iadd hx hb dL_law_776 ?_
  refine va_sld hx hb hX hbl hbA hS hi1 dL_law_777 ?_
  refine lv_aload_n hx hb dL_law_778 rfl (lv_at hl 0 rfl) ?_
  refine lv_iload_n hx hb dL_law_779 rfl (lv_at hl 3 rfl) ?_
  refine lv_iconst (v := (2 : Int32)) hx hb dL_law_780 (by decide) ?_
  refine lv_iadd hx hb dL_law_781 ?_
  refine va_sld hx hb hX hbl hbA hS hi2 dL_law_782 ?_
  refine lv_aload_n hx hb dL_law_783 rfl (lv_at hl 0 rfl) ?_
  refine lv_iload_n hx hb dL_law_784 rfl (lv_at hl 3 rfl) ?_
  refine lv_iconst (v := (3 : Int32)) hx hb dL_law_785 (by decide) ?_
  refine lv_iadd hx hb dL_law_786 ?_
  refine va_sld hx hb hX hbl hbA hS hi3 dL_law_787 ?_
  have h := hst.2.2.2.2.2.2.2.2.2.2.2.2.2.2.2.2.2.1 σ ρ hRel (xs (i3 + (1 : Int32)).toNatClampNeg) (xs (i3 + (2 : Int32)).toNatClampNeg) (xs (i3 + (3 : Int32)).toNatClampNeg)
  refine l_cVi (TT := cT g) (As := [.int (xs (i3 + (1 : Int32)).toNatClampNeg), .int (xs (i3 + (2 : Int32)).toNatClampNeg), .int (xs (i3 + (3 : Int32)).toNatClampNeg)]) (rest := []) X hl.1 hw hS hc0 (kX4_wordOf hg h) mw_620 fX4_wordOf tG rfl rfl ⟨rfl, rfl, Nat.le_of_ble_eq_true rfl, Nat.le_of_ble_eq_true rfl⟩ ⟨Nat.le_of_ble_eq_true rfl, Nat.le_of_ble_eq_true rfl⟩ rfl rfl (Nat.le_of_ble_eq_true rfl) dL_law_788 (fun r σ1 H1 locs h hw hk hS => ?_)
  replace hv := wd_keep hv (fun q hq1 hq2 => hk q hq1 (fun z => hdj q z hq2))
  clear hk
  generalize H1 = H at hw hv hS ⊢
  refine lv_aload_n hx hb dL_law_791 rfl (lv_at hl 2 rfl) ?_
  refine lv_aload_n hx hb dL_law_792 rfl (lv_at hl 0 rfl) ?_
  refine lv_iload_n hx hb dL_law_793 rfl (lv_at hl 3 rfl) ?_
  refine lv_iconst (v := (1 : Int32)) hx hb dL_law_794 (by decide) ?_
  refine lv_iadd hx hb dL_law_795 ?_
  refine va_sld hx hb hX hbl hbA hS hi1 dL_law_796 ?_
  refine lv_aload_n hx hb dL_law_797 rfl (lv_at hl 0 rfl) ?_
  refine lv_iload_n hx hb dL_law_798 rfl (lv_at hl 3 rfl) ?_
  refine lv_iconst (v := (2 : Int32)) hx hb dL_law_799 (by decide) ?_
  refine lv_iadd hx hb dL_law_800 ?_
  refine va_sld hx hb hX hbl hbA hS hi2 dL_law_801 ?_
  refine lv_aload_n hx hb dL_law_802 rfl (lv_at hl 0 rfl) ?_
  refine lv_iload_n hx hb dL_law_803 rfl (lv_at hl 3 rfl) ?_
  refine lv_iconst (v := (3 : Int32)) hx hb dL_law_804 (by decide) ?_
  refine lv_iadd hx hb dL_law_805 ?_
  refine va_sld hx hb hX hbl hbA hS hi3 dL_law_806 ?_
  refine l_cVi (TT := rT g) (As := [.int (xs (i3 + (1 : Int32)).toNatClampNeg), .int (xs (i3 + (2 : Int32)).toNatClampNeg), .int (xs (i3 + (3 : Int32)).toNatClampNeg)]) (rest := [.int r]) X hl.1 hv hS hr0 (kX5_wordOf hg h) mw_624 fX5_wordOf qM rfl rfl ⟨rfl, rfl, Nat.le_of_ble_eq_true rfl, Nat.le_of_ble_eq_true rfl⟩ ⟨Nat.le_of_ble_eq_true rfl, Nat.le_of_ble_eq_true rfl⟩ rfl rfl (Nat.le_of_ble_eq_true rfl) dL_law_807 (fun r1 ρ1 H1 locs h hv hk hS => ?_)
  replace hw := wd_keep hw (fun q hq1 hq2 => hk q hq1 (hdj q hq2))
  clear hk
  generalize H1 = H at hw hv hS ⊢
  refine lv_icmp_eq (tgt := 848) hx hb dL_law_810 (by decide) (fun hc => ?_) (fun hc => ?_)
  ·
    exact hend σ1 ρ1 H locs ls h.2 hw hv hS hl
  · exact absurd h.1 hc
set_option maxRecDepth 100000 in
set_option maxHeartbeats 4000000 in
theorem law_c18 {p : Program} {l : Launch} {e : Env} {s : State} {m : MethodId} {below : List Frame} {meth : Method} {c : Code} {D : va_G} {g : mG} {Ac Ar : Nat → Prop} {b L : Nat} {xs : Nat → Int32} {Rel : CS → RS → Prop} (hg : inj g) (hL : L ≤ 2560) (hc0 : ∀ q, Ac q → s.heap.size ≤ q) (hr0 : ∀ q, Ar q → s.heap.size ≤ q) (hdj : ∀ q, Ac q → ¬ Ar q) (X : cx p m meth c s #[Value.ref b] cL_law 4 RL D (tyG g)) (hr : meth.sig.returnType = ret) (hX : va_X b L xs s s.heap) (hbl : b < s.heap.size) (hst : LawStep Rel) (σ : CS) (ρ : RS) (hRel : Rel σ ρ) (i3 : Int32) (hi1 : vp_in (i3 + (1 : Int32)) L) (hi2 : vp_in (i3 + (2 : Int32)) L) (hi3 : vp_in (i3 + (3 : Int32)) L) (hi4 : vp_in (i3 + (4 : Int32)) L)
    (hend : ∀ (σ : CS) (ρ : RS) (H : Heap) (locs : List Loc) (ls : Array Slot), Rel σ ρ → wd D Ac (cT g σ) H → wd D Ar (rT g ρ) H → va_S (fun q : Nat => s.heap.size ≤ q) s.heap H locs → lv_has ls 4 [(0, .ref b), (1, .ref (g.1 2010)), (2, .ref (g.1 5000)), (3, .int i3)] → W p l e room_1 s m #[Value.ref b] below meth c H locs 600000 7302250 (lw_Z below #[Value.ref b] s) (F0 m 848 ls []))
    (H : Heap) (locs : List Loc) (ls : Array Slot) (hw : wd D Ac (cT g σ) H) (hv : wd D Ar (rT g ρ) H) (hS : va_S (fun q : Nat => s.heap.size ≤ q) s.heap H locs) (hl : lv_has ls 4 [(0, .ref b), (1, .ref (g.1 2010)), (2, .ref (g.1 5000)), (3, .int i3)]) : W p l e room_1 s m #[Value.ref b] below meth c H locs 600000 7302250 (lw_Z below #[Value.ref b] s) (F0 m 815 ls []) := by
  obtain ⟨hx, hb, hml, hown, hts, hK, hlk⟩ := id X
  have hbA : ¬ (fun q : Nat => s.heap.size ≤ q) b := Nat.not_le.mpr hbl
  refine lv_aload_n hx hb dL_law_815 rfl (lv_at hl 1 rfl) ?_
  refine lv_aload_n hx hb dL_law_816 rfl (lv_at hl 0 rfl) ?_
  refine lv_iload_n hx hb dL_law_817 rfl (lv_at hl 3 rfl) ?_
  refine lv_iconst (v := (1 : Int32)) hx hb dL_law_818 (by decide) ?_
  refine lv_iadd hx hb dL_law_819 ?_
  refine va_sld hx hb hX hbl hbA hS hi1 dL_law_820 ?_
  refine lv_aload_n hx hb dL_law_821 rfl (lv_at hl 0 rfl) ?_
  refine lv_iload_n hx hb dL_law_822 rfl (lv_at hl 3 rfl) ?_
  refine lv_iconst (v := (2 : Int32)) hx hb dL_law_823 (by decide) ?_
  refine lv_iadd hx hb dL_law_824 ?_
  refine va_sld hx hb hX hbl hbA hS hi2 dL_law_825 ?_
  have h := hst.2.2.2.2.2.2.2.2.2.2.2.2.2.2.2.2.2.2 σ ρ hRel (xs (i3 + (1 : Int32)).toNatClampNeg) (xs (i3 + (2 : Int32)).toNatClampNeg)
  refine l_cVi (TT := cT g) (As := [.int (xs (i3 + (1 : Int32)).toNatClampNeg), .int (xs (i3 + (2 : Int32)).toNatClampNeg)]) (rest := []) X hl.1 hw hS hc0 (kX4_same hg h) mw_629 fX4_same tG rfl rfl ⟨rfl, rfl, Nat.le_of_ble_eq_true rfl, Nat.le_of_ble_eq_true rfl⟩ ⟨Nat.le_of_ble_eq_true rfl, Nat.le_of_ble_eq_true rfl⟩ rfl rfl (Nat.le_of_ble_eq_true rfl) dL_law_826 (fun r σ1 H1 locs h hw hk hS => ?_)
  replace hv := wd_keep hv (fun q hq1 hq2 => hk q hq1 (fun z => hdj q z hq2))
  clear hk
  generalize H1 = H at hw hv hS ⊢
  refine lv_aload_n hx hb dL_law_829 rfl (lv_at hl 2 rfl) ?_
  refine lv_aload_n hx hb dL_law_830 rfl (lv_at hl 0 rfl) ?_
  refine lv_iload_n hx hb dL_law_831 rfl (lv_at hl 3 rfl) ?_
  refine lv_iconst (v := (1 : Int32)) hx hb dL_law_832 (by decide) ?_
  refine lv_iadd hx hb dL_law_833 ?_
  refine va_sld hx hb hX hbl hbA hS hi1 dL_law_834 ?_
  refine lv_aload_n hx hb dL_law_835 rfl (lv_at hl 0 rfl) ?_
  refine lv_iload_n hx hb dL_law_836 rfl (lv_at hl 3 rfl) ?_
  refine lv_iconst (v := (2 : Int32)) hx hb dL_law_837 (by decide) ?_
  refine lv_iadd hx hb dL_law_838 ?_
  refine va_sld hx hb hX hbl hbA hS hi2 dL_law_839 ?_
  refine l_cVi (TT := rT g) (As := [.int (xs (i3 + (1 : Int32)).toNatClampNeg), .int (xs (i3 + (2 : Int32)).toNatClampNeg)]) (rest := [.int r]) X hl.1 hv hS hr0 (kX5_same hg h) mw_641 fX5_same qM rfl rfl ⟨rfl, rfl, Nat.le_of_ble_eq_true rfl, Nat.le_of_ble_eq_true rfl⟩ ⟨Nat.le_of_ble_eq_true rfl, Nat.le_of_ble_eq_true rfl⟩ rfl rfl (Nat.le_of_ble_eq_true rfl) dL_law_840 (fun r1 ρ1 H1 locs h hv hk hS => ?_)
  replace hw := wd_keep hw (fun q hq1 hq2 => hk q hq1 (hdj q hq2))
  clear hk
  generalize H1 = H at hw hv hS ⊢
  refine lv_icmp_eq (tgt := 848) hx hb dL_law_843 (by decide) (fun hc => ?_) (fun hc => ?_)
  ·
    exact hend σ1 ρ1 H locs ls h.2 hw hv hS hl
  · exact absurd h.1 hc
set_option maxRecDepth 100000 in
set_option maxHeartbeats 4000000 in
theorem law_loop {p : Program} {l : Launch} {e : Env} {s : State} {m : MethodId} {below : List Frame} {meth : Method} {c : Code} {D : va_G} {g : mG} {Ac Ar : Nat → Prop} {b L : Nat} {xs : Nat → Int32} {Rel : CS → RS → Prop} (hg : inj g) (hL : L ≤ 2560) (hc0 : ∀ q, Ac q → s.heap.size ≤ q) (hr0 : ∀ q, Ar q → s.heap.size ≤ q) (hdj : ∀ q, Ac q → ¬ Ar q) (X : cx p m meth c s #[Value.ref b] cL_law 4 RL D (tyG g)) (hr : meth.sig.returnType = ret) (hX : va_X b L xs s s.heap) (hbl : b < s.heap.size) (hst : LawStep Rel) : ∀ (n j : Nat) (σ : CS) (ρ : RS) (H : Heap) (locs : List Loc) (ls : Array Slot), j ≤ L + 5 → L + 6 ≤ j + n → Rel σ ρ → wd D Ac (cT g σ) H → wd D Ar (rT g ρ) H → va_S (fun q : Nat => s.heap.size ≤ q) s.heap H locs → lv_has ls 4 [(0, .ref b), (1, .ref (g.1 2010)), (2, .ref (g.1 5000)), (3, .int (nI j))] → W p l e room_1 s m #[Value.ref b] below meth c H locs 600000 7302250 (lw_Z below #[Value.ref b] s) (F0 m 18 ls []) := by
  obtain ⟨hx, hb, hml, hown, hts, hK, hlk⟩ := id X
  have hbA : ¬ (fun q : Nat => s.heap.size ≤ q) b := Nat.not_le.mpr hbl
  intro n
  induction n with
  | zero =>
    intro j σ ρ H locs ls h1 h2
    exact absurd h2 (by omega)
  | succ n ih =>
    intro j σ ρ H locs ls hj hn hRel hw hv hS hl
    refine lv_iload_n hx hb dL_law_18 rfl (lv_at hl 3 rfl) ?_
    refine lv_aload_n hx hb dL_law_19 rfl (lv_at hl 0 rfl) ?_
    refine va_slen hx hb hX hbl hbA hS dL_law_20 ?_
    refine lv_iconst (v := (5 : Int32)) hx hb dL_law_21 (by decide) ?_
    refine lv_isub hx hb dL_law_22 ?_
    have hlen : (nI L - 5).toInt = (L : Int) - 5 := pk_sub_toInt (a := L) (b := 5) (by omega) (by omega)
    have hjt : (nI j).toInt = (j : Int) := nI_toInt (by omega)
    refine lv_icmp_gt (tgt := 854) hx hb dL_law_23 (by decide) (fun hc => ?_) (fun hc => ?_)
    · refine lv_iconst (v := 1) hx hb dL_law_854 (by decide) ?_
      refine va_forget (fun q hq => hS.2.2 q hq) ?_
      exact lw_ret hx hb hr hlk dL_law_855
    · have hc1 : ¬ (nI L - 5) < nI j := hc
      rw [Int32.lt_iff_toInt_lt, hlen, hjt] at hc1
      have hlt : j + 5 ≤ L := by omega
      have hi0 : vp_in (nI j) L := vp_in_nI (by omega) (by omega)
      have hi1 : vp_in (nI j + (1 : Int32)) L := by rw [show nI j + (1 : Int32) = nI (j + 1) from nI_add j 1]; exact vp_in_nI (by omega) (by omega)
      have hi2 : vp_in (nI j + (2 : Int32)) L := by rw [show nI j + (2 : Int32) = nI (j + 2) from nI_add j 2]; exact vp_in_nI (by omega) (by omega)
      have hi3 : vp_in (nI j + (3 : Int32)) L := by rw [show nI j + (3 : Int32) = nI (j + 3) from nI_add j 3]; exact vp_in_nI (by omega) (by omega)
      have hi4 : vp_in (nI j + (4 : Int32)) L := by rw [show nI j + (4 : Int32) = nI (j + 4) from nI_add j 4]; exact vp_in_nI (by omega) (by omega)
      refine lv_aload_n hx hb dL_law_26 rfl (lv_at hl 0 rfl) ?_
      refine lv_iload_n hx hb dL_law_27 rfl (lv_at hl 3 rfl) ?_
      refine va_sld hx hb hX hbl hbA hS hi0 dL_law_28 ?_
      refine lv_bipush (v := (31 : Int32)) hx hb dL_law_29 (by decide) ?_
      refine lv_iand hx hb dL_law_31 ?_
      obtain ⟨k, hk32, ek0⟩ := pk_andE (xs (nI j).toNatClampNeg) (m := 31) 5 (by decide)
      have hk9 : k < 32 := hk32
      rw [ek0]
      have ek : (nI k).toInt = (k : Int) := nI_toInt (by omega)
      rcases Nat.eq_or_lt_of_le (show 0 ≤ k by omega) with hk | hk
      · subst hk
        refine lv_tableIn (tgt := 124) (off := 92) hx hb dL_law_32 (by rw [ek]; decide) (by rw [ek]; decide) (by rw [ek]; rfl) (by decide) ?_
        exact law_c0 hg hL hc0 hr0 hdj X hr hX hbl hst σ ρ hRel _ hi1 hi2 hi3 hi4 (fun σ ρ H locs ls hR hw hv hS hl => by
          obtain ⟨i4, ei4⟩ : ∃ z : Int32, z = nI j + 5 := ⟨_, rfl⟩
          refine lv_iinc (v := i4) (lv' := [(3, .int i4), (0, .ref b), (1, .ref (g.1 2010)), (2, .ref (g.1 5000))]) hx hb dL_law_848 hl (k := 3) rfl (by rw [ei4]; rfl) (by decide) rfl (fun ls hl => ?_)
          refine lv_goto (tgt := 18) hx hb dL_law_851 (by decide) ?_
          exact ih (j + 5) σ ρ H locs ls (by omega) (by omega) hR hw hv hS (by rw [show nI (j + 5) = i4 by rw [ei4]; exact (nI_add j 5).symm]; exact lv_sub hl [1, 2, 3, 0] rfl)) H locs ls hw hv hS hl
      rcases Nat.eq_or_lt_of_le (show 1 ≤ k by omega) with hk | hk
      · subst hk
        refine lv_tableIn (tgt := 167) (off := 135) hx hb dL_law_32 (by rw [ek]; decide) (by rw [ek]; decide) (by rw [ek]; rfl) (by decide) ?_
        exact law_c1 hg hL hc0 hr0 hdj X hr hX hbl hst σ ρ hRel _ hi1 hi2 hi3 hi4 (fun σ ρ H locs ls hR hw hv hS hl => by
          obtain ⟨i4, ei4⟩ : ∃ z : Int32, z = nI j + 5 := ⟨_, rfl⟩
          refine lv_iinc (v := i4) (lv' := [(3, .int i4), (0, .ref b), (1, .ref (g.1 2010)), (2, .ref (g.1 5000))]) hx hb dL_law_848 hl (k := 3) rfl (by rw [ei4]; rfl) (by decide) rfl (fun ls hl => ?_)
          refine lv_goto (tgt := 18) hx hb dL_law_851 (by decide) ?_
          exact ih (j + 5) σ ρ H locs ls (by omega) (by omega) hR hw hv hS (by rw [show nI (j + 5) = i4 by rw [ei4]; exact (nI_add j 5).symm]; exact lv_sub hl [1, 2, 3, 0] rfl)) H locs ls hw hv hS hl
      rcases Nat.eq_or_lt_of_le (show 2 ≤ k by omega) with hk | hk
      · subst hk
        refine lv_tableIn (tgt := 190) (off := 158) hx hb dL_law_32 (by rw [ek]; decide) (by rw [ek]; decide) (by rw [ek]; rfl) (by decide) ?_
        exact law_c2 hg hL hc0 hr0 hdj X hr hX hbl hst σ ρ hRel _ hi1 hi2 hi3 hi4 (fun σ ρ H locs ls hR hw hv hS hl => by
          obtain ⟨i4, ei4⟩ : ∃ z : Int32, z = nI j + 5 := ⟨_, rfl⟩
          refine lv_iinc (v := i4) (lv' := [(3, .int i4), (0, .ref b), (1, .ref (g.1 2010)), (2, .ref (g.1 5000))]) hx hb dL_law_848 hl (k := 3) rfl (by rw [ei4]; rfl) (by decide) rfl (fun ls hl => ?_)
          refine lv_goto (tgt := 18) hx hb dL_law_851 (by decide) ?_
          exact ih (j + 5) σ ρ H locs ls (by omega) (by omega) hR hw hv hS (by rw [show nI (j + 5) = i4 by rw [ei4]; exact (nI_add j 5).symm]; exact lv_sub hl [1, 2, 3, 0] rfl)) H locs ls hw hv hS hl
      rcases Nat.eq_or_lt_of_le (show 3 ≤ k by omega) with hk | hk
      · subst hk
        refine lv_tableIn (tgt := 259) (off := 227) hx hb dL_law_32 (by rw [ek]; decide) (by rw [ek]; decide) (by rw [ek]; rfl) (by decide) ?_
        exact law_c3 hg hL hc0 hr0 hdj X hr hX hbl hst σ ρ hRel _ hi1 hi2 hi3 hi4 (fun σ ρ H locs ls hR hw hv hS hl => by
          obtain ⟨i4, ei4⟩ : ∃ z : Int32, z = nI j + 5 := ⟨_, rfl⟩
          refine lv_iinc (v := i4) (lv' := [(3, .int i4), (0, .ref b), (1, .ref (g.1 2010)), (2, .ref (g.1 5000))]) hx hb dL_law_848 hl (k := 3) rfl (by rw [ei4]; rfl) (by decide) rfl (fun ls hl => ?_)
          refine lv_goto (tgt := 18) hx hb dL_law_851 (by decide) ?_
          exact ih (j + 5) σ ρ H locs ls (by omega) (by omega) hR hw hv hS (by rw [show nI (j + 5) = i4 by rw [ei4]; exact (nI_add j 5).symm]; exact lv_sub hl [1, 2, 3, 0] rfl)) H locs ls hw hv hS hl
      rcases Nat.eq_or_lt_of_le (show 4 ≤ k by omega) with hk | hk
      · subst hk
        refine lv_tableIn (tgt := 302) (off := 270) hx hb dL_law_32 (by rw [ek]; decide) (by rw [ek]; decide) (by rw [ek]; rfl) (by decide) ?_
        exact law_c4 hg hL hc0 hr0 hdj X hr hX hbl hst σ ρ hRel _ hi1 hi2 hi3 hi4 (fun σ ρ H locs ls hR hw hv hS hl => by
          obtain ⟨i4, ei4⟩ : ∃ z : Int32, z = nI j + 5 := ⟨_, rfl⟩
          refine lv_iinc (v := i4) (lv' := [(3, .int i4), (0, .ref b), (1, .ref (g.1 2010)), (2, .ref (g.1 5000))]) hx hb dL_law_848 hl (k := 3) rfl (by rw [ei4]; rfl) (by decide) rfl (fun ls hl => ?_)
          refine lv_goto (tgt := 18) hx hb dL_law_851 (by decide) ?_
          exact ih (j + 5) σ ρ H locs ls (by omega) (by omega) hR hw hv hS (by rw [show nI (j + 5) = i4 by rw [ei4]; exact (nI_add j 5).symm]; exact lv_sub hl [1, 2, 3, 0] rfl)) H locs ls hw hv hS hl
      rcases Nat.eq_or_lt_of_le (show 5 ≤ k by omega) with hk | hk
      · subst hk
        refine lv_tableIn (tgt := 335) (off := 303) hx hb dL_law_32 (by rw [ek]; decide) (by rw [ek]; decide) (by rw [ek]; rfl) (by decide) ?_
        exact law_c5 hg hL hc0 hr0 hdj X hr hX hbl hst σ ρ hRel _ hi1 hi2 hi3 hi4 (fun σ ρ H locs ls hR hw hv hS hl => by
          obtain ⟨i4, ei4⟩ : ∃ z : Int32, z = nI j + 5 := ⟨_, rfl⟩
          refine lv_iinc (v := i4) (lv' := [(3, .int i4), (0, .ref b), (1, .ref (g.1 2010)), (2, .ref (g.1 5000))]) hx hb dL_law_848 hl (k := 3) rfl (by rw [ei4]; rfl) (by decide) rfl (fun ls hl => ?_)
          refine lv_goto (tgt := 18) hx hb dL_law_851 (by decide) ?_
          exact ih (j + 5) σ ρ H locs ls (by omega) (by omega) hR hw hv hS (by rw [show nI (j + 5) = i4 by rw [ei4]; exact (nI_add j 5).symm]; exact lv_sub hl [1, 2, 3, 0] rfl)) H locs ls hw hv hS hl
      rcases Nat.eq_or_lt_of_le (show 6 ≤ k by omega) with hk | hk
      · subst hk
        refine lv_tableIn (tgt := 378) (off := 346) hx hb dL_law_32 (by rw [ek]; decide) (by rw [ek]; decide) (by rw [ek]; rfl) (by decide) ?_
        exact law_c6 hg hL hc0 hr0 hdj X hr hX hbl hst σ ρ hRel _ hi1 hi2 hi3 hi4 (fun σ ρ H locs ls hR hw hv hS hl => by
          obtain ⟨i4, ei4⟩ : ∃ z : Int32, z = nI j + 5 := ⟨_, rfl⟩
          refine lv_iinc (v := i4) (lv' := [(3, .int i4), (0, .ref b), (1, .ref (g.1 2010)), (2, .ref (g.1 5000))]) hx hb dL_law_848 hl (k := 3) rfl (by rw [ei4]; rfl) (by decide) rfl (fun ls hl => ?_)
          refine lv_goto (tgt := 18) hx hb dL_law_851 (by decide) ?_
          exact ih (j + 5) σ ρ H locs ls (by omega) (by omega) hR hw hv hS (by rw [show nI (j + 5) = i4 by rw [ei4]; exact (nI_add j 5).symm]; exact lv_sub hl [1, 2, 3, 0] rfl)) H locs ls hw hv hS hl
      rcases Nat.eq_or_lt_of_le (show 7 ≤ k by omega) with hk | hk
      · subst hk
        refine lv_tableIn (tgt := 421) (off := 389) hx hb dL_law_32 (by rw [ek]; decide) (by rw [ek]; decide) (by rw [ek]; rfl) (by decide) ?_
        exact law_c7 hg hL hc0 hr0 hdj X hr hX hbl hst σ ρ hRel _ hi1 hi2 hi3 hi4 (fun σ ρ H locs ls hR hw hv hS hl => by
          obtain ⟨i4, ei4⟩ : ∃ z : Int32, z = nI j + 5 := ⟨_, rfl⟩
          refine lv_iinc (v := i4) (lv' := [(3, .int i4), (0, .ref b), (1, .ref (g.1 2010)), (2, .ref (g.1 5000))]) hx hb dL_law_848 hl (k := 3) rfl (by rw [ei4]; rfl) (by decide) rfl (fun ls hl => ?_)
          refine lv_goto (tgt := 18) hx hb dL_law_851 (by decide) ?_
          exact ih (j + 5) σ ρ H locs ls (by omega) (by omega) hR hw hv hS (by rw [show nI (j + 5) = i4 by rw [ei4]; exact (nI_add j 5).symm]; exact lv_sub hl [1, 2, 3, 0] rfl)) H locs ls hw hv hS hl
      rcases Nat.eq_or_lt_of_le (show 8 ≤ k by omega) with hk | hk
      · subst hk
        refine lv_tableIn (tgt := 464) (off := 432) hx hb dL_law_32 (by rw [ek]; decide) (by rw [ek]; decide) (by rw [ek]; rfl) (by decide) ?_
        exact law_c8 hg hL hc0 hr0 hdj X hr hX hbl hst σ ρ hRel _ hi1 hi2 hi3 hi4 (fun σ ρ H locs ls hR hw hv hS hl => by
          obtain ⟨i4, ei4⟩ : ∃ z : Int32, z = nI j + 5 := ⟨_, rfl⟩
          refine lv_iinc (v := i4) (lv' := [(3, .int i4), (0, .ref b), (1, .ref (g.1 2010)), (2, .ref (g.1 5000))]) hx hb dL_law_848 hl (k := 3) rfl (by rw [ei4]; rfl) (by decide) rfl (fun ls hl => ?_)
          refine lv_goto (tgt := 18) hx hb dL_law_851 (by decide) ?_
          exact ih (j + 5) σ ρ H locs ls (by omega) (by omega) hR hw hv hS (by rw [show nI (j + 5) = i4 by rw [ei4]; exact (nI_add j 5).symm]; exact lv_sub hl [1, 2, 3, 0] rfl)) H locs ls hw hv hS hl
      rcases Nat.eq_or_lt_of_le (show 9 ≤ k by omega) with hk | hk
      · subst hk
        refine lv_tableIn (tgt := 507) (off := 475) hx hb dL_law_32 (by rw [ek]; decide) (by rw [ek]; decide) (by rw [ek]; rfl) (by decide) ?_
        exact law_c9 hg hL hc0 hr0 hdj X hr hX hbl hst σ ρ hRel _ hi1 hi2 hi3 hi4 (fun σ ρ H locs ls hR hw hv hS hl => by
          obtain ⟨i4, ei4⟩ : ∃ z : Int32, z = nI j + 5 := ⟨_, rfl⟩
          refine lv_iinc (v := i4) (lv' := [(3, .int i4), (0, .ref b), (1, .ref (g.1 2010)), (2, .ref (g.1 5000))]) hx hb dL_law_848 hl (k := 3) rfl (by rw [ei4]; rfl) (by decide) rfl (fun ls hl => ?_)
          refine lv_goto (tgt := 18) hx hb dL_law_851 (by decide) ?_
          exact ih (j + 5) σ ρ H locs ls (by omega) (by omega) hR hw hv hS (by rw [show nI (j + 5) = i4 by rw [ei4]; exact (nI_add j 5).symm]; exact lv_sub hl [1, 2, 3, 0] rfl)) H locs ls hw hv hS hl
      rcases Nat.eq_or_lt_of_le (show 10 ≤ k by omega) with hk | hk
      · subst hk
        refine lv_tableIn (tgt := 540) (off := 508) hx hb dL_law_32 (by rw [ek]; decide) (by rw [ek]; decide) (by rw [ek]; rfl) (by decide) ?_
        exact law_c10 hg hL hc0 hr0 hdj X hr hX hbl hst σ ρ hRel _ hi1 hi2 hi3 hi4 (fun σ ρ H locs ls hR hw hv hS hl => by
          obtain ⟨i4, ei4⟩ : ∃ z : Int32, z = nI j + 5 := ⟨_, rfl⟩
          refine lv_iinc (v := i4) (lv' := [(3, .int i4), (0, .ref b), (1, .ref (g.1 2010)), (2, .ref (g.1 5000))]) hx hb dL_law_848 hl (k := 3) rfl (by rw [ei4]; rfl) (by decide) rfl (fun ls hl => ?_)
          refine lv_goto (tgt := 18) hx hb dL_law_851 (by decide) ?_
          exact ih (j + 5) σ ρ H locs ls (by omega) (by omega) hR hw hv hS (by rw [show nI (j + 5) = i4 by rw [ei4]; exact (nI_add j 5).symm]; exact lv_sub hl [1, 2, 3, 0] rfl)) H locs ls hw hv hS hl
      rcases Nat.eq_or_lt_of_le (show 11 ≤ k by omega) with hk | hk
      · subst hk
        refine lv_tableIn (tgt := 583) (off := 551) hx hb dL_law_32 (by rw [ek]; decide) (by rw [ek]; decide) (by rw [ek]; rfl) (by decide) ?_
        exact law_c11 hg hL hc0 hr0 hdj X hr hX hbl hst σ ρ hRel _ hi1 hi2 hi3 hi4 (fun σ ρ H locs ls hR hw hv hS hl => by
          obtain ⟨i4, ei4⟩ : ∃ z : Int32, z = nI j + 5 := ⟨_, rfl⟩
          refine lv_iinc (v := i4) (lv' := [(3, .int i4), (0, .ref b), (1, .ref (g.1 2010)), (2, .ref (g.1 5000))]) hx hb dL_law_848 hl (k := 3) rfl (by rw [ei4]; rfl) (by decide) rfl (fun ls hl => ?_)
          refine lv_goto (tgt := 18) hx hb dL_law_851 (by decide) ?_
          exact ih (j + 5) σ ρ H locs ls (by omega) (by omega) hR hw hv hS (by rw [show nI (j + 5) = i4 by rw [ei4]; exact (nI_add j 5).symm]; exact lv_sub hl [1, 2, 3, 0] rfl)) H locs ls hw hv hS hl
      rcases Nat.eq_or_lt_of_le (show 12 ≤ k by omega) with hk | hk
      · subst hk
        refine lv_tableIn (tgt := 626) (off := 594) hx hb dL_law_32 (by rw [ek]; decide) (by rw [ek]; decide) (by rw [ek]; rfl) (by decide) ?_
        exact law_c12 hg hL hc0 hr0 hdj X hr hX hbl hst σ ρ hRel _ hi1 hi2 hi3 hi4 (fun σ ρ H locs ls hR hw hv hS hl => by
          obtain ⟨i4, ei4⟩ : ∃ z : Int32, z = nI j + 5 := ⟨_, rfl⟩
          refine lv_iinc (v := i4) (lv' := [(3, .int i4), (0, .ref b), (1, .ref (g.1 2010)), (2, .ref (g.1 5000))]) hx hb dL_law_848 hl (k := 3) rfl (by rw [ei4]; rfl) (by decide) rfl (fun ls hl => ?_)
          refine lv_goto (tgt := 18) hx hb dL_law_851 (by decide) ?_
          exact ih (j + 5) σ ρ H locs ls (by omega) (by omega) hR hw hv hS (by rw [show nI (j + 5) = i4 by rw [ei4]; exact (nI_add j 5).symm]; exact lv_sub hl [1, 2, 3, 0] rfl)) H locs ls hw hv hS hl
      rcases Nat.eq_or_lt_of_le (show 13 ≤ k by omega) with hk | hk
      · subst hk
        refine lv_tableIn (tgt := 649) (off := 617) hx hb dL_law_32 (by rw [ek]; decide) (by rw [ek]; decide) (by rw [ek]; rfl) (by decide) ?_
        exact law_c13 hg hL hc0 hr0 hdj X hr hX hbl hst σ ρ hRel _ hi1 hi2 hi3 hi4 (fun σ ρ H locs ls hR hw hv hS hl => by
          obtain ⟨i4, ei4⟩ : ∃ z : Int32, z = nI j + 5 := ⟨_, rfl⟩
          refine lv_iinc (v := i4) (lv' := [(3, .int i4), (0, .ref b), (1, .ref (g.1 2010)), (2, .ref (g.1 5000))]) hx hb dL_law_848 hl (k := 3) rfl (by rw [ei4]; rfl) (by decide) rfl (fun ls hl => ?_)
          refine lv_goto (tgt := 18) hx hb dL_law_851 (by decide) ?_
          exact ih (j + 5) σ ρ H locs ls (by omega) (by omega) hR hw hv hS (by rw [show nI (j + 5) = i4 by rw [ei4]; exact (nI_add j 5).symm]; exact lv_sub hl [1, 2, 3, 0] rfl)) H locs ls hw hv hS hl
      rcases Nat.eq_or_lt_of_le (show 14 ≤ k by omega) with hk | hk
      · subst hk
        refine lv_tableIn (tgt := 683) (off := 651) hx hb dL_law_32 (by rw [ek]; decide) (by rw [ek]; decide) (by rw [ek]; rfl) (by decide) ?_
        exact law_c14 hg hL hc0 hr0 hdj X hr hX hbl hst σ ρ hRel _ hi1 hi2 hi3 hi4 (fun σ ρ H locs ls hR hw hv hS hl => by
          obtain ⟨i4, ei4⟩ : ∃ z : Int32, z = nI j + 5 := ⟨_, rfl⟩
          refine lv_iinc (v := i4) (lv' := [(3, .int i4), (0, .ref b), (1, .ref (g.1 2010)), (2, .ref (g.1 5000))]) hx hb dL_law_848 hl (k := 3) rfl (by rw [ei4]; rfl) (by decide) rfl (fun ls hl => ?_)
          refine lv_goto (tgt := 18) hx hb dL_law_851 (by decide) ?_
          exact ih (j + 5) σ ρ H locs ls (by omega) (by omega) hR hw hv hS (by rw [show nI (j + 5) = i4 by rw [ei4]; exact (nI_add j 5).symm]; exact lv_sub hl [1, 2, 3, 0] rfl)) H locs ls hw hv hS hl
      rcases Nat.eq_or_lt_of_le (show 15 ≤ k by omega) with hk | hk
      · subst hk
        refine lv_tableIn (tgt := 706) (off := 674) hx hb dL_law_32 (by rw [ek]; decide) (by rw [ek]; decide) (by rw [ek]; rfl) (by decide) ?_
        exact law_c15 hg hL hc0 hr0 hdj X hr hX hbl hst σ ρ hRel _ hi1 hi2 hi3 hi4 (fun σ ρ H locs ls hR hw hv hS hl => by
          obtain ⟨i4, ei4⟩ : ∃ z : Int32, z = nI j + 5 := ⟨_, rfl⟩
          refine lv_iinc (v := i4) (lv' := [(3, .int i4), (0, .ref b), (1, .ref (g.1 2010)), (2, .ref (g.1 5000))]) hx hb dL_law_848 hl (k := 3) rfl (by rw [ei4]; rfl) (by decide) rfl (fun ls hl => ?_)
          refine lv_goto (tgt := 18) hx hb dL_law_851 (by decide) ?_
          exact ih (j + 5) σ ρ H locs ls (by omega) (by omega) hR hw hv hS (by rw [show nI (j + 5) = i4 by rw [ei4]; exact (nI_add j 5).symm]; exact lv_sub hl [1, 2, 3, 0] rfl)) H locs ls hw hv hS hl
      rcases Nat.eq_or_lt_of_le (show 16 ≤ k by omega) with hk | hk
      · subst hk
        refine lv_tableIn (tgt := 739) (off := 707) hx hb dL_law_32 (by rw [ek]; decide) (by rw [ek]; decide) (by rw [ek]; rfl) (by decide) ?_
        exact law_c16 hg hL hc0 hr0 hdj X hr hX hbl hst σ ρ hRel _ hi1 hi2 hi3 hi4 (fun σ ρ H locs ls hR hw hv hS hl => by
          obtain ⟨i4, ei4⟩ : ∃ z : Int32, z = nI j + 5 := ⟨_, rfl⟩
          refine lv_iinc (v := i4) (lv' := [(3, .int i4), (0, .ref b), (1, .ref (g.1 2010)), (2, .ref (g.1 5000))]) hx hb dL_law_848 hl (k := 3) rfl (by rw [ei4]; rfl) (by decide) rfl (fun ls hl => ?_)
          refine lv_goto (tgt := 18) hx hb dL_law_851 (by decide) ?_
          exact ih (j + 5) σ ρ H locs ls (by omega) (by omega) hR hw hv hS (by rw [show nI (j + 5) = i4 by rw [ei4]; exact (nI_add j 5).symm]; exact lv_sub hl [1, 2, 3, 0] rfl)) H locs ls hw hv hS hl
      rcases Nat.eq_or_lt_of_le (show 17 ≤ k by omega) with hk | hk
      · subst hk
        refine lv_tableIn (tgt := 772) (off := 740) hx hb dL_law_32 (by rw [ek]; decide) (by rw [ek]; decide) (by rw [ek]; rfl) (by decide) ?_
        exact law_c17 hg hL hc0 hr0 hdj X hr hX hbl hst σ ρ hRel _ hi1 hi2 hi3 hi4 (fun σ ρ H locs ls hR hw hv hS hl => by
          obtain ⟨i4, ei4⟩ : ∃ z : Int32, z = nI j + 5 := ⟨_, rfl⟩
          refine lv_iinc (v := i4) (lv' := [(3, .int i4), (0, .ref b), (1, .ref (g.1 2010)), (2, .ref (g.1 5000))]) hx hb dL_law_848 hl (k := 3) rfl (by rw [ei4]; rfl) (by decide) rfl (fun ls hl => ?_)
          refine lv_goto (tgt := 18) hx hb dL_law_851 (by decide) ?_
          exact ih (j + 5) σ ρ H locs ls (by omega) (by omega) hR hw hv hS (by rw [show nI (j + 5) = i4 by rw [ei4]; exact (nI_add j 5).symm]; exact lv_sub hl [1, 2, 3, 0] rfl)) H locs ls hw hv hS hl
      rcases Nat.eq_or_lt_of_le (show 18 ≤ k by omega) with hk | hk
      · subst hk
        refine lv_tableIn (tgt := 815) (off := 783) hx hb dL_law_32 (by rw [ek]; decide) (by rw [ek]; decide) (by rw [ek]; rfl) (by decide) ?_
        exact law_c18 hg hL hc0 hr0 hdj X hr hX hbl hst σ ρ hRel _ hi1 hi2 hi3 hi4 (fun σ ρ H locs ls hR hw hv hS hl => by
          obtain ⟨i4, ei4⟩ : ∃ z : Int32, z = nI j + 5 := ⟨_, rfl⟩
          refine lv_iinc (v := i4) (lv' := [(3, .int i4), (0, .ref b), (1, .ref (g.1 2010)), (2, .ref (g.1 5000))]) hx hb dL_law_848 hl (k := 3) rfl (by rw [ei4]; rfl) (by decide) rfl (fun ls hl => ?_)
          refine lv_goto (tgt := 18) hx hb dL_law_851 (by decide) ?_
          exact ih (j + 5) σ ρ H locs ls (by omega) (by omega) hR hw hv hS (by rw [show nI (j + 5) = i4 by rw [ei4]; exact (nI_add j 5).symm]; exact lv_sub hl [1, 2, 3, 0] rfl)) H locs ls hw hv hS hl
      refine lv_tableOut (tgt := 848) hx hb dL_law_32 (Or.inr (by rw [ek]; omega)) (by decide) ?_
      obtain ⟨i4, ei4⟩ : ∃ z : Int32, z = nI j + 5 := ⟨_, rfl⟩
      refine lv_iinc (v := i4) (lv' := [(3, .int i4), (0, .ref b), (1, .ref (g.1 2010)), (2, .ref (g.1 5000))]) hx hb dL_law_848 hl (k := 3) rfl (by rw [ei4]; rfl) (by decide) rfl (fun ls hl => ?_)
      refine lv_goto (tgt := 18) hx hb dL_law_851 (by decide) ?_
      exact ih (j + 5) σ ρ H locs ls (by omega) (by omega) hRel hw hv hS (by rw [show nI (j + 5) = i4 by rw [ei4]; exact (nI_add j 5).symm]; exact lv_sub hl [1, 2, 3, 0] rfl)
