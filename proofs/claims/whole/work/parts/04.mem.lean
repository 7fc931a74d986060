/-! THE WORLD AS A SET OF CELLS: 'wd D A T H' says that the heap holds every cell of T, and that these lie apart in A. Rows for one instruction each; a contract's start and end over such worlds. -/
def wd (D : va_G) (A : Nat → Prop) (T : Nat × va_E → Prop) (H : Heap) : Prop := ∃ ws : va_W, va_P D vwCl ws H ∧ va_D A ws ∧ ∀ q, T q → ∃ k : Nat, ws[k]? = some q
theorem wd_set {D : va_G} {A : Nat → Prop} {T T' : Nat × va_E → Prop} {H : Heap} {a k : Nat} {ws : va_W} {e0 e1 : va_E} (hP : va_P D vwCl (ws.set k (a, e1)) H) (hD : va_D A (ws.set k (a, e1))) (hk : ws[k]? = some (a, e0)) (hm : ∀ q, T q → ∃ k : Nat, ws[k]? = some q) (hT : ∀ q, T' q → q = (a, e1) ∨ (T q ∧ q.1 ≠ a)) : wd D A T' H := by
  refine ⟨_, hP, hD, fun q hq => ?_⟩
  have hlt : k < ws.length := (List.getElem?_eq_some_iff.mp hk).1
  rcases hT q hq with rfl | ⟨h1, h2⟩
  · exact ⟨k, by rw [List.getElem?_set_self hlt]⟩
  · obtain ⟨j, hj⟩ := hm q h1
    refine ⟨j, ?_⟩
    have hne : k ≠ j := by
      intro he
      subst he
      rw [hk] at hj
      cases hj
      exact h2 rfl
    rw [List.getElem?_set_ne hne]
    exact hj
/-- what a walk knows of its start: the machine, the code, the class, the words, the classes' numbers, the nest's links -/
def kn (D : va_G) (tys : List (ClassId × FieldType)) (U : State) : Prop := va_K D vwCl tys U ∧ ∀ w ∈ nestW, va_Nw w U
def cx (p : Program) (m : MethodId) (meth : Method) (c : Code) (s : State) (args : Array Value) (cc : ByteArray) (nL : Nat) (own : String) (D : va_G) (tys : List (ClassId × FieldType)) : Prop :=
  p.tables.exec = Jvm.exec ∧ c.code = cc ∧ c.maxLocals = nL ∧ s.vm.findClass own = some m.cls ∧ (∀ w ∈ wsA, w.before args s = true) ∧ kn D tys s ∧ meth.locks = false
theorem nestW_tab : ∀ w ∈ nestW, w.onTables = true := by decide +kernel
theorem nest_warm {s U : State} (hW : s.WarmedH U.vm) (h : ∀ w ∈ nestW, va_Nw w s) : ∀ w ∈ nestW, va_Nw w U := by
  intro w hw
  have h1 := h w hw
  rcases List.mem_append.mp hw with q | q
  · obtain ⟨t, -, rfl⟩ := List.mem_map.mp q
    exact va_Nw.warmF hW h1
  · obtain ⟨t, -, rfl⟩ := List.mem_map.mp q
    exact va_Nw.warmM hW h1
theorem kn.warm {D : va_G} {tys : List (ClassId × FieldType)} {s U : State} (hW : s.WarmedH U.vm) (h : kn D tys s) : kn D tys U := ⟨va_K.moved hW.alike h.1, nest_warm hW h.2⟩
theorem kn.calling {D : va_G} {tys : List (ClassId × FieldType)} {U : State} (g : JFrame) (mk : MethodId) (a : Array Value) (h : kn D tys U) : kn D tys (U.calling g mk a) := ⟨va_K.moved (u := U) (U := U.calling g mk a) (Vm.Alike.refl U.vm) h.1, fun w hw => va_Nw.same (u := U) (U := U.calling g mk a) (nestW_tab w hw) rfl (h.2 w hw)⟩
def mPc (D : va_G) (tys : List (ClassId × FieldType)) (A : Nat → Prop) (T : Nat × va_E → Prop) (av : List Value) : Array Value → State → Prop := va_Pc av (fun U => kn D tys U ∧ wd D A T U.heap)
theorem mPc_blind {D : va_G} {tys : List (ClassId × FieldType)} {A : Nat → Prop} {T : Nat × va_E → Prop} {av : List Value} : FrameBlind (mPc D tys A T av) := by
  intro a U g mk h
  exact ⟨h.1, h.2.1.calling g mk a, h.2.2⟩
theorem mPc_at {D : va_G} {tys : List (ClassId × FieldType)} {A : Nat → Prop} {T : Nat × va_E → Prop} {av : List Value} {s : State} {H : Heap} (hk : kn D tys s) (hw : wd D A T H) : ∀ U : State, U.heap = H → s.WarmedH U.vm → mPc D tys A T av av.toArray U := by
  intro U hU hW
  exact ⟨rfl, hk.warm hW, by rw [hU]; exact hw⟩
theorem good_V {own C : String} {index : Nat} {y : MethodName} {bytes : ByteArray} {maxL : Nat} {ret : Option FieldType} (h1 : Cond.methodLink own index y ∈ wsA) (h2 : Cond.instanceMethod y ∈ wsA) (h3 : Cond.selects C y y ∈ wsA) (h4 : Cond.initialized C ∈ wsA) (h5 : Cond.code y bytes maxL ret ∈ wsA) : GoodIn wsA (wsV own index C y (Cond.code y bytes maxL ret :: wsA)) := by
  intro w hw
  have hm : w ∈ wsA := by
    rcases List.mem_append.mp hw with q | q
    · simp only [List.mem_cons, List.not_mem_nil, or_false] at q
      rcases q with rfl | rfl | rfl | rfl
      · exact h1
      · exact h2
      · exact h3
      · exact h4
    · rcases List.mem_cons.mp q with rfl | q
      · exact h5
      · exact q
  exact ⟨hm, wsA_good w hm⟩
theorem good_S {own : String} {index : Nat} {y : MethodName} {bytes : ByteArray} {maxL : Nat} {ret : Option FieldType} (h1 : Cond.methodLink own index y ∈ wsA) (h2 : Cond.static y ∈ wsA) (h4 : Cond.initialized y.cls ∈ wsA) (h5 : Cond.code y bytes maxL ret ∈ wsA) : GoodIn wsA (va_wsS own index y (Cond.code y bytes maxL ret :: wsA)) := by
  intro w hw
  have hm : w ∈ wsA := by
    rcases List.mem_append.mp hw with q | q
    · simp only [List.mem_cons, List.not_mem_nil, or_false] at q
      rcases q with rfl | rfl | rfl
      · exact h1
      · exact h2
      · exact h4
    · rcases List.mem_cons.mp q with rfl | q
      · exact h5
      · exact q
  exact ⟨hm, wsA_good w hm⟩
section M
variable {p : Program} {l : Launch} {e : Env} {R : Room} {s : State} {m : MethodId} {args : Array Value} {below : List Frame} {meth : Method} {c : Code} {H : Heap} {locs : List Loc} {Q : State → Prop}
variable {cc : ByteArray} {pc : Nat} {ls : Array Slot} {rest : List Value} {D : va_G} {A : Nat → Prop} {a : Nat} {tys : List (ClassId × FieldType)} {H0 : Heap} {T T' : Nat × va_E → Prop} {own : String} {nL : Nat}
theorem m_get (X : cx p m meth c s args cc nL own D tys) (hw : wd D A T H) {ci : Nat} {fs : List Value} (hT : T (a, .inr (ci, fs))) {C : String} {TT : u_T} {N index : Nat} (hc : vwCl[ci]? = some (C, TT, N)) (hin : ∀ w ∈ u_ws C TT N, w ∈ wsA) (k : Nat) (hk : k < N) (hlink : Cond.fieldLink own index (TT k).1 (TT k).2.1 (TT k).2.2.1 ∈ wsA) {v : Value} (hv : fs[k]? = some v) (hdg : decode cc pc = .ok (.getfield index, 3))
    (kk : W p l e R s m args below meth c H locs 0 0 Q (F0 m (pc + 3) ls (v :: rest))) : W p l e R s m args below meth c H locs 0 0 Q (F0 m pc ls (.ref a :: rest)) := by
  obtain ⟨hx, hb, hml, hown, hts, hK, hlk⟩ := X
  obtain ⟨ws, hP, hD, hm⟩ := hw
  obtain ⟨k0, hk0⟩ := hm _ hT
  exact va_get hx hb hts hin hown hK.1 hP k0 hk0 hc k hk (hts _ hlink) (fun _ h => h) hv hdg kk
theorem m_getN (X : cx p m meth c s args cc nL own D tys) (hw : wd D A T H) {ci : Nat} {fs : List Value} (hT : T (a, .inr (ci, fs))) {C host : String} {TT : u_T} {N index : Nat} (hc : vwCl[ci]? = some (C, TT, N)) (hin : ∀ w ∈ u_ws C TT N, w ∈ wsA) (k : Nat) (hk : k < N) (hlink : Cond.fieldLinkNest own index (TT k).1 (TT k).2.1 (TT k).2.2.1 host ∈ nestW) {v : Value} (hv : fs[k]? = some v) (hdg : decode cc pc = .ok (.getfield index, 3))
    (kk : W p l e R s m args below meth c H locs 0 0 Q (F0 m (pc + 3) ls (v :: rest))) : W p l e R s m args below meth c H locs 0 0 Q (F0 m pc ls (.ref a :: rest)) := by
  obtain ⟨hx, hb, hml, hown, hts, hK, hlk⟩ := X
  obtain ⟨ws, hP, hD, hm⟩ := hw
  obtain ⟨k0, hk0⟩ := hm _ hT
  exact va_getN hx hb hts hin hown hK.1 hP k0 hk0 hc k hk (va_Nw.use rfl (hK.2 _ hlink)) (fun _ h => h) hv hdg kk
theorem m_put (X : cx p m meth c s args cc nL own D tys) (hw : wd D A T H) (hS : va_S A H0 H locs) {ci : Nat} {fs : List Value} (hT : T (a, .inr (ci, fs))) {C : String} {TT : u_T} {N index : Nat} (hc : vwCl[ci]? = some (C, TT, N)) (hin : ∀ w ∈ u_ws C TT N, w ∈ wsA) (ty0 : Nat → FieldType) (hty : ∀ k, k < N → parseFieldDescriptor (TT k).2.2.1 = some (ty0 k)) (hnm : ∀ a, a < N → ∀ b, b < N → a ≠ b → (TT a).2.1 ≠ (TT b).2.1) (k : Nat) (hk : k < N) (hlink : Cond.fieldLink own index (TT k).1 (TT k).2.1 (TT k).2.2.1 ∈ wsA) (hfin : (TT k).2.2.2 = false) (hd : parseFieldDescriptor (TT k).2.2.1 = some .int) {x : Int32} (hl : k < fs.length) (hT' : ∀ q, T' q → q = (a, .inr (ci, fs.set k (.int x))) ∨ (T q ∧ q.1 ≠ a)) (hdg : decode cc pc = .ok (.putfield index, 3))
    (kk : ∀ (H1 : Heap) (locs1 : List Loc), wd D A T' H1 → va_S A H0 H1 locs1 → W p l e R s m args below meth c H1 locs1 0 0 Q (F0 m (pc + 3) ls rest)) : W p l e R s m args below meth c H locs 0 0 Q (F0 m pc ls (.int x :: .ref a :: rest)) := by
  obtain ⟨hx, hb, hml, hown, hts, hK, hlk⟩ := X
  obtain ⟨ws, hP, hD, hm⟩ := hw
  obtain ⟨k0, hk0⟩ := hm _ hT
  exact va_put hx hb hts hin ty0 hty hnm hown hK.1 hP hD hS k0 hk0 hc k hk (hts _ hlink) (fun _ h => h) hfin hd rfl rfl hl hdg (fun H1 locs1 hP1 hD1 hS1 => kk H1 locs1 (wd_set hP1 hD1 hk0 hm hT') hS1)
theorem m_iald (X : cx p m meth c s args cc nL own D tys) (hw : wd D A T H) {cA : ClassId} {n : Nat} {f : Nat → Int32} (hT : T (a, .inl (cA, n, .inl f))) (t0 : Nat) (ht : tys[t0]? = some (cA, .int)) {i : Int32} (hin : vp_in i n) (hdg : decode cc pc = .ok (.iaload, 1))
    (kk : W p l e R s m args below meth c H locs 0 0 Q (F0 m (pc + 1) ls (.int (f i.toNatClampNeg) :: rest))) : W p l e R s m args below meth c H locs 0 0 Q (F0 m pc ls (.int i :: .ref a :: rest)) := by
  obtain ⟨hx, hb, hml, hown, hts, hK, hlk⟩ := X
  obtain ⟨ws, hP, hD, hm⟩ := hw
  obtain ⟨k0, hk0⟩ := hm _ hT
  exact va_iald hx hb hK.1 hP k0 t0 hk0 ht hin hdg kk
theorem m_lald (X : cx p m meth c s args cc nL own D tys) (hw : wd D A T H) {cA : ClassId} {n : Nat} {f : Nat → Int64} (hT : T (a, .inl (cA, n, .inr (.inl f)))) (t0 : Nat) (ht : tys[t0]? = some (cA, .long)) {i : Int32} (hin : vp_in i n) (hdg : decode cc pc = .ok (.laload, 1))
    (kk : W p l e R s m args below meth c H locs 0 0 Q (F0 m (pc + 1) ls (.long (f i.toNatClampNeg) :: rest))) : W p l e R s m args below meth c H locs 0 0 Q (F0 m pc ls (.int i :: .ref a :: rest)) := by
  obtain ⟨hx, hb, hml, hown, hts, hK, hlk⟩ := X
  obtain ⟨ws, hP, hD, hm⟩ := hw
  obtain ⟨k0, hk0⟩ := hm _ hT
  exact va_lald hx hb hK.1 hP k0 t0 hk0 ht hin hdg kk
theorem m_aald (X : cx p m meth c s args cc nL own D tys) (hw : wd D A T H) {cA : ClassId} {C : String} {n : Nat} {f : Nat → Option Nat} (hT : T (a, .inl (cA, n, .inr (.inr (.inr (.inr f)))))) (t0 : Nat) (ht : tys[t0]? = some (cA, .object C)) {i : Int32} (hin : vp_in i n) (hdg : decode cc pc = .ok (.aaload, 1))
    (kk : W p l e R s m args below meth c H locs 0 0 Q (F0 m (pc + 1) ls (va_rf (f i.toNatClampNeg) :: rest))) : W p l e R s m args below meth c H locs 0 0 Q (F0 m pc ls (.int i :: .ref a :: rest)) := by
  obtain ⟨hx, hb, hml, hown, hts, hK, hlk⟩ := X
  obtain ⟨ws, hP, hD, hm⟩ := hw
  obtain ⟨k0, hk0⟩ := hm _ hT
  exact va_aldq hx hb hK.1 hP k0 t0 hk0 ht hin hdg kk
theorem m_alen (X : cx p m meth c s args cc nL own D tys) (hw : wd D A T H) {cA : ClassId} {x : vp_A} (hT : T (a, .inl (cA, x))) (t0 : Nat) {ty : FieldType} (ht : tys[t0]? = some (cA, ty)) {v : Int32} (hv : Int32.ofNat x.1 = v) (hdg : decode cc pc = .ok (.arraylength, 1))
    (kk : W p l e R s m args below meth c H locs 0 0 Q (F0 m (pc + 1) ls (.int v :: rest))) : W p l e R s m args below meth c H locs 0 0 Q (F0 m pc ls (.ref a :: rest)) := by
  obtain ⟨hx, hb, hml, hown, hts, hK, hlk⟩ := X
  obtain ⟨ws, hP, hD, hm⟩ := hw
  obtain ⟨k0, hk0⟩ := hm _ hT
  exact va_alen hx hb hK.1 hP k0 t0 hk0 ht hv hdg kk
theorem m_iast (X : cx p m meth c s args cc nL own D tys) (hw : wd D A T H) (hS : va_S A H0 H locs) {cA : ClassId} {n : Nat} {f : Nat → Int32} (hT : T (a, .inl (cA, n, .inl f))) (t0 : Nat) (ht : tys[t0]? = some (cA, .int)) {i x : Int32} (hin : vp_in i n) (hT' : ∀ q, T' q → q = (a, .inl (cA, n, .inl (upd f i.toNatClampNeg x))) ∨ (T q ∧ q.1 ≠ a)) (hdg : decode cc pc = .ok (.iastore, 1))
    (kk : ∀ (H1 : Heap) (locs1 : List Loc), wd D A T' H1 → va_S A H0 H1 locs1 → W p l e R s m args below meth c H1 locs1 0 0 Q (F0 m (pc + 1) ls rest)) : W p l e R s m args below meth c H locs 0 0 Q (F0 m pc ls (.int x :: .int i :: .ref a :: rest)) := by
  obtain ⟨hx, hb, hml, hown, hts, hK, hlk⟩ := X
  obtain ⟨ws, hP, hD, hm⟩ := hw
  obtain ⟨k0, hk0⟩ := hm _ hT
  exact va_iast hx hb hK.1 hP hD hS k0 t0 hk0 ht hin hdg (fun H1 locs1 hP1 hD1 hS1 => kk H1 locs1 (wd_set hP1 hD1 hk0 hm hT') hS1)
theorem m_last (X : cx p m meth c s args cc nL own D tys) (hw : wd D A T H) (hS : va_S A H0 H locs) {cA : ClassId} {n : Nat} {f : Nat → Int64} (hT : T (a, .inl (cA, n, .inr (.inl f)))) (t0 : Nat) (ht : tys[t0]? = some (cA, .long)) {i : Int32} {x : Int64} (hin : vp_in i n) (hT' : ∀ q, T' q → q = (a, .inl (cA, n, .inr (.inl (vp_updL f i.toNatClampNeg x)))) ∨ (T q ∧ q.1 ≠ a)) (hdg : decode cc pc = .ok (.lastore, 1))
    (kk : ∀ (H1 : Heap) (locs1 : List Loc), wd D A T' H1 → va_S A H0 H1 locs1 → W p l e R s m args below meth c H1 locs1 0 0 Q (F0 m (pc + 1) ls rest)) : W p l e R s m args below meth c H locs 0 0 Q (F0 m pc ls (.long x :: .int i :: .ref a :: rest)) := by
  obtain ⟨hx, hb, hml, hown, hts, hK, hlk⟩ := X
  obtain ⟨ws, hP, hD, hm⟩ := hw
  obtain ⟨k0, hk0⟩ := hm _ hT
  exact va_last hx hb hK.1 hP hD hS k0 t0 hk0 ht hin hdg (fun H1 locs1 hP1 hD1 hS1 => kk H1 locs1 (wd_set hP1 hD1 hk0 hm hT') hS1)
theorem m_copyi (X : cx p m meth c s args cc nL own D tys) (hsz : ls.size = nL) (hw : wd D A T H) (hS : va_S A H0 H locs) {index : Nat} (h1 : Cond.methodLink own index arraycopyName ∈ wsA) (h2 : Cond.native arraycopyName ∈ wsA) (h3 : Cond.static arraycopyName ∈ wsA) (h4 : Cond.initialized "java/lang/System" ∈ wsA) {a0 : Nat} {cA : ClassId} {n0 n1 : Nat} {f g : Nat → Int32} (hT0 : T (a0, .inl (cA, n0, .inl f))) (hT1 : T (a, .inl (cA, n1, .inl g))) (t0 : Nat) (ht : tys[t0]? = some (cA, .int)) {sp dp n : Int32} (k1 : ¬ sp < 0) (k2 : ¬ dp < 0) (k3 : ¬ n < 0) (k4 : sp.toNatClampNeg + n.toNatClampNeg ≤ n0) (k5 : dp.toNatClampNeg + n.toNatClampNeg ≤ n1) (hfr : 1 ≤ R.frames) (hlo : (rest.map fun v => v.category).sum + (nativeFrameWords "java/lang/System" "arraycopy" 5 + 11) ≤ R.locals) (hT' : ∀ q, T' q → q = (a, .inl (cA, n1, .inl (va_cpy f g sp.toNatClampNeg dp.toNatClampNeg n.toNatClampNeg))) ∨ (T q ∧ q.1 ≠ a)) (hdg : decode cc pc = .ok (.invokestatic index, 3))
    (kk : ∀ (H1 : Heap) (locs1 : List Loc), wd D A T' H1 → va_S A H0 H1 locs1 → W p l e R s m args below meth c H1 locs1 0 0 Q (F0 m (pc + 3) ls rest)) : W p l e R s m args below meth c H locs 0 0 Q (F0 m pc ls (.int n :: .int dp :: .ref a :: .int sp :: .ref a0 :: rest)) := by
  obtain ⟨hx, hb, hml, hown, hts, hK, hlk⟩ := X
  obtain ⟨ws, hP, hD, hm⟩ := hw
  obtain ⟨k0, hk0⟩ := hm _ hT0
  obtain ⟨j0, hj0⟩ := hm _ hT1
  exact va_copyi hx hb (hml.trans hsz.symm) hown (hts _ h1) (hts _ h2) (hts _ h3) (hts _ h4) hK.1 hP hD hS k0 j0 t0 t0 hk0 hj0 ht ht rfl k1 k2 k3 k4 k5 (fun _ _ => rfl) hfr hlo hdg (fun H1 locs1 hP1 hD1 hS1 => kk H1 locs1 (wd_set hP1 hD1 hj0 hm hT') hS1)
end M
