/-! calls and returns over worlds; a method out of its entry -/
def vfit (y : MethodName) (bytes : ByteArray) (maxL : Nat) (ret : Option FieldType) (n : Nat) : Prop := Cond.instanceMethod y ∈ wsA ∧ Cond.selects y.cls y y ∈ wsA ∧ Cond.initialized y.cls ∈ wsA ∧ Cond.code y bytes maxL ret ∈ wsA ∧ y.cls ≠ "java/lang/invoke/MethodHandle" ∧ y.cls ≠ "java/lang/invoke/VarHandle" ∧ (parseMethodDescriptor y.desc).map (fun d => d.parameters.length) = some n
def sfit (y : MethodName) (bytes : ByteArray) (maxL : Nat) (ret : Option FieldType) (n : Nat) : Prop := Cond.static y ∈ wsA ∧ Cond.initialized y.cls ∈ wsA ∧ Cond.code y bytes maxL ret ∈ wsA ∧ y.cls ≠ "java/lang/invoke/MethodHandle" ∧ y.cls ≠ "java/lang/invoke/VarHandle" ∧ (parseMethodDescriptor y.desc).map (fun d => d.parameters.length) = some n
def rfit (rm R : Room) (maxL : Nat) : Prop := rm.cells = 0 ∧ rm.slots = 0 ∧ rm.frames + 1 ≤ R.frames ∧ 8 + (maxL + 11) + rm.locals ≤ R.locals
theorem wd_eq {D : va_G} {A : Nat → Prop} {T : Nat × va_E → Prop} {H H' : Heap} (h : H = H') (hw : wd D A T H') : wd D A T H := h ▸ hw
section MC
variable {p : Program} {l : Launch} {e : Env} {R : Room} {s : State} {m : MethodId} {args : Array Value} {below : List Frame} {meth : Method} {c : Code} {H : Heap} {locs : List Loc} {Q : State → Prop}
variable {cc : ByteArray} {pc : Nat} {ls : Array Slot} {rest : List Value} {D : va_G} {A : Nat → Prop} {b : Nat} {tys : List (ClassId × FieldType)} {H0 : Heap} {T T' : Nat × va_E → Prop} {own : String} {nL : Nat}
variable {S : Type} {TT : S → Nat × va_E → Prop} {y : MethodName} {bytes : ByteArray} {maxL n index : Nat} {ret : Option FieldType} {rm : Room} {As st0 : List Value}
theorem m_cVi {post : Int32 → S → Prop} (X : cx p m meth c s args cc nL own D tys) (hsz : ls.size = nL) (hw : wd D A T H) (hS : va_S A H0 H locs) (hM : Met l y (Cond.code y bytes maxL ret :: wsA) rm (mPc D tys A T (.ref b :: As)) (va_Qi post (fun u t => wd D A (TT u) t.heap) A) 0 0 A) (hlink : Cond.methodLink own index y ∈ wsA) (hf : vfit y bytes maxL ret n) {ci : Nat} {fs : List Value} (hT : T (b, .inr (ci, fs))) {q : vw_C} (hc : vwCl[ci]? = some q) (hq : q.1 = y.cls) (hr : rfit rm R maxL) (hn : As.length = n) (hst : st0 = As.reverse ++ .ref b :: rest) (hro : (rest.map fun v => v.category).sum ≤ 8) (hdg : decode cc pc = .ok (.invokevirtual index, 3))
    (kk : ∀ (r : Int32) (u : S) (H1 : Heap) (locs1 : List Loc), post r u → wd D A (TT u) H1 → va_S A H0 H1 locs1 → W p l e R s m args below meth c H1 locs1 0 0 Q (F0 m (pc + 3) ls (.int r :: rest))) : W p l e R s m args below meth c H locs 0 0 Q (F0 m pc ls st0) := by
  obtain ⟨hx, hb, hml, hown, hts, hK, hlk⟩ := X
  obtain ⟨f1, f2, f3, f4, f5, f6, f7⟩ := hf
  obtain ⟨ws, hP, hD, hm⟩ := id hw
  obtain ⟨k0, hk0⟩ := hm _ hT
  have hrec := va_recv hK.1 hP hc hk0
  rw [hq] at hrec
  have run := va_runV (g := F0 m pc ls st0) (l := l) (p := p) (e := e) (below := below) (meth := meth) (locs := locs) (cells := 0) (slots := 0) (rest := rest) ⟨hx, hb, hml, hown, hts⟩ hM (cwV (R := R) n hts (good_V hlink f1 f2 f3 f4) rfl hr.1 hr.2.1 ⟨rfl, f5, f6, f7⟩ hr.2.2) ⟨mPc_blind, hrec, mPc_at hK hw⟩ rfl hn hsz hst (lv_room hro) hdg ⟨Nat.zero_le _, Nat.zero_le _⟩
  exact va_calli run hS (fun _ _ h => h) (fun _ h => h) (fun r u t H1 locs1 ht hvm hp hB hz hk hS1 => kk r u H1 locs1 hp (wd_eq ht.symm hB) hS1)
theorem m_cSi {post : Int32 → S → Prop} (X : cx p m meth c s args cc nL own D tys) (hsz : ls.size = nL) (hw : wd D A T H) (hS : va_S A H0 H locs) (hM : Met l y (Cond.code y bytes maxL ret :: wsA) rm (mPc D tys A T As) (va_Qi post (fun u t => wd D A (TT u) t.heap) A) 0 0 A) (hlink : Cond.methodLink own index y ∈ wsA) (hf : sfit y bytes maxL ret n) (hr : rfit rm R maxL) (hn : As.length = n) (hst : st0 = As.reverse ++ rest) (hro : (rest.map fun v => v.category).sum ≤ 8) (hdg : decode cc pc = .ok (.invokestatic index, 3))
    (kk : ∀ (r : Int32) (u : S) (H1 : Heap) (locs1 : List Loc), post r u → wd D A (TT u) H1 → va_S A H0 H1 locs1 → W p l e R s m args below meth c H1 locs1 0 0 Q (F0 m (pc + 3) ls (.int r :: rest))) : W p l e R s m args below meth c H locs 0 0 Q (F0 m pc ls st0) := by
  obtain ⟨hx, hb, hml, hown, hts, hK, hlk⟩ := X
  obtain ⟨f2, f3, f4, f5, f6, f7⟩ := hf
  have run := va_runS (g := F0 m pc ls st0) (l := l) (p := p) (e := e) (below := below) (meth := meth) (locs := locs) (cells := 0) (slots := 0) (rest := rest) ⟨hx, hb, hml, hown, hts⟩ hM (va_cwS (R := R) n hts (good_S hlink f2 f3 f4) rfl hr.1 hr.2.1 ⟨f5, f6, f7⟩ hr.2.2) ⟨mPc_blind, mPc_at hK hw⟩ rfl hn hsz hst (lv_room hro) hdg ⟨Nat.zero_le _, Nat.zero_le _⟩
  exact va_calli run hS (fun _ _ h => h) (fun _ h => h) (fun r u t H1 locs1 ht hvm hp hB hz hk hS1 => kk r u H1 locs1 hp (wd_eq ht.symm hB) hS1)
theorem m_cVl {post : Int64 → S → Prop} (X : cx p m meth c s args cc nL own D tys) (hsz : ls.size = nL) (hw : wd D A T H) (hS : va_S A H0 H locs) (hM : Met l y (Cond.code y bytes maxL ret :: wsA) rm (mPc D tys A T (.ref b :: As)) (va_Ql post (fun u t => wd D A (TT u) t.heap) A) 0 0 A) (hlink : Cond.methodLink own index y ∈ wsA) (hf : vfit y bytes maxL ret n) {ci : Nat} {fs : List Value} (hT : T (b, .inr (ci, fs))) {q : vw_C} (hc : vwCl[ci]? = some q) (hq : q.1 = y.cls) (hr : rfit rm R maxL) (hn : As.length = n) (hst : st0 = As.reverse ++ .ref b :: rest) (hro : (rest.map fun v => v.category).sum ≤ 8) (hdg : decode cc pc = .ok (.invokevirtual index, 3))
    (kk : ∀ (r : Int64) (u : S) (H1 : Heap) (locs1 : List Loc), post r u → wd D A (TT u) H1 → va_S A H0 H1 locs1 → W p l e R s m args below meth c H1 locs1 0 0 Q (F0 m (pc + 3) ls (.long r :: rest))) : W p l e R s m args below meth c H locs 0 0 Q (F0 m pc ls st0) := by
  obtain ⟨hx, hb, hml, hown, hts, hK, hlk⟩ := X
  obtain ⟨f1, f2, f3, f4, f5, f6, f7⟩ := hf
  obtain ⟨ws, hP, hD, hm⟩ := id hw
  obtain ⟨k0, hk0⟩ := hm _ hT
  have hrec := va_recv hK.1 hP hc hk0
  rw [hq] at hrec
  have run := va_runV (g := F0 m pc ls st0) (l := l) (p := p) (e := e) (below := below) (meth := meth) (locs := locs) (cells := 0) (slots := 0) (rest := rest) ⟨hx, hb, hml, hown, hts⟩ hM (cwV (R := R) n hts (good_V hlink f1 f2 f3 f4) rfl hr.1 hr.2.1 ⟨rfl, f5, f6, f7⟩ hr.2.2) ⟨mPc_blind, hrec, mPc_at hK hw⟩ rfl hn hsz hst (lv_room hro) hdg ⟨Nat.zero_le _, Nat.zero_le _⟩
  exact va_calll run hS (fun _ _ h => h) (fun _ h => h) (fun r u t H1 locs1 ht hvm hp hB hz hk hS1 => kk r u H1 locs1 hp (wd_eq ht.symm hB) hS1)
theorem m_cSl {post : Int64 → S → Prop} (X : cx p m meth c s args cc nL own D tys) (hsz : ls.size = nL) (hw : wd D A T H) (hS : va_S A H0 H locs) (hM : Met l y (Cond.code y bytes maxL ret :: wsA) rm (mPc D tys A T As) (va_Ql post (fun u t => wd D A (TT u) t.heap) A) 0 0 A) (hlink : Cond.methodLink own index y ∈ wsA) (hf : sfit y bytes maxL ret n) (hr : rfit rm R maxL) (hn : As.length = n) (hst : st0 = As.reverse ++ rest) (hro : (rest.map fun v => v.category).sum ≤ 8) (hdg : decode cc pc = .ok (.invokestatic index, 3))
    (kk : ∀ (r : Int64) (u : S) (H1 : Heap) (locs1 : List Loc), post r u → wd D A (TT u) H1 → va_S A H0 H1 locs1 → W p l e R s m args below meth c H1 locs1 0 0 Q (F0 m (pc + 3) ls (.long r :: rest))) : W p l e R s m args below meth c H locs 0 0 Q (F0 m pc ls st0) := by
  obtain ⟨hx, hb, hml, hown, hts, hK, hlk⟩ := X
  obtain ⟨f2, f3, f4, f5, f6, f7⟩ := hf
  have run := va_runS (g := F0 m pc ls st0) (l := l) (p := p) (e := e) (below := below) (meth := meth) (locs := locs) (cells := 0) (slots := 0) (rest := rest) ⟨hx, hb, hml, hown, hts⟩ hM (va_cwS (R := R) n hts (good_S hlink f2 f3 f4) rfl hr.1 hr.2.1 ⟨f5, f6, f7⟩ hr.2.2) ⟨mPc_blind, mPc_at hK hw⟩ rfl hn hsz hst (lv_room hro) hdg ⟨Nat.zero_le _, Nat.zero_le _⟩
  exact va_calll run hS (fun _ _ h => h) (fun _ h => h) (fun r u t H1 locs1 ht hvm hp hB hz hk hS1 => kk r u H1 locs1 hp (wd_eq ht.symm hB) hS1)
theorem m_cVv {post : S → Prop} (X : cx p m meth c s args cc nL own D tys) (hsz : ls.size = nL) (hw : wd D A T H) (hS : va_S A H0 H locs) (hM : Met l y (Cond.code y bytes maxL ret :: wsA) rm (mPc D tys A T (.ref b :: As)) (va_Qv post (fun u t => wd D A (TT u) t.heap) A) 0 0 A) (hlink : Cond.methodLink own index y ∈ wsA) (hf : vfit y bytes maxL ret n) {ci : Nat} {fs : List Value} (hT : T (b, .inr (ci, fs))) {q : vw_C} (hc : vwCl[ci]? = some q) (hq : q.1 = y.cls) (hr : rfit rm R maxL) (hn : As.length = n) (hst : st0 = As.reverse ++ .ref b :: rest) (hro : (rest.map fun v => v.category).sum ≤ 8) (hdg : decode cc pc = .ok (.invokevirtual index, 3))
    (kk : ∀ (u : S) (H1 : Heap) (locs1 : List Loc), post u → wd D A (TT u) H1 → va_S A H0 H1 locs1 → W p l e R s m args below meth c H1 locs1 0 0 Q (F0 m (pc + 3) ls (rest))) : W p l e R s m args below meth c H locs 0 0 Q (F0 m pc ls st0) := by
  obtain ⟨hx, hb, hml, hown, hts, hK, hlk⟩ := X
  obtain ⟨f1, f2, f3, f4, f5, f6, f7⟩ := hf
  obtain ⟨ws, hP, hD, hm⟩ := id hw
  obtain ⟨k0, hk0⟩ := hm _ hT
  have hrec := va_recv hK.1 hP hc hk0
  rw [hq] at hrec
  have run := va_runV (g := F0 m pc ls st0) (l := l) (p := p) (e := e) (below := below) (meth := meth) (locs := locs) (cells := 0) (slots := 0) (rest := rest) ⟨hx, hb, hml, hown, hts⟩ hM (cwV (R := R) n hts (good_V hlink f1 f2 f3 f4) rfl hr.1 hr.2.1 ⟨rfl, f5, f6, f7⟩ hr.2.2) ⟨mPc_blind, hrec, mPc_at hK hw⟩ rfl hn hsz hst (lv_room hro) hdg ⟨Nat.zero_le _, Nat.zero_le _⟩
  exact va_callv run hS (fun _ _ h => h) (fun _ h => h) (fun u t H1 locs1 ht hvm hp hB hz hk hS1 => kk u H1 locs1 hp (wd_eq ht.symm hB) hS1)
theorem m_cSv {post : S → Prop} (X : cx p m meth c s args cc nL own D tys) (hsz : ls.size = nL) (hw : wd D A T H) (hS : va_S A H0 H locs) (hM : Met l y (Cond.code y bytes maxL ret :: wsA) rm (mPc D tys A T As) (va_Qv post (fun u t => wd D A (TT u) t.heap) A) 0 0 A) (hlink : Cond.methodLink own index y ∈ wsA) (hf : sfit y bytes maxL ret n) (hr : rfit rm R maxL) (hn : As.length = n) (hst : st0 = As.reverse ++ rest) (hro : (rest.map fun v => v.category).sum ≤ 8) (hdg : decode cc pc = .ok (.invokestatic index, 3))
    (kk : ∀ (u : S) (H1 : Heap) (locs1 : List Loc), post u → wd D A (TT u) H1 → va_S A H0 H1 locs1 → W p l e R s m args below meth c H1 locs1 0 0 Q (F0 m (pc + 3) ls (rest))) : W p l e R s m args below meth c H locs 0 0 Q (F0 m pc ls st0) := by
  obtain ⟨hx, hb, hml, hown, hts, hK, hlk⟩ := X
  obtain ⟨f2, f3, f4, f5, f6, f7⟩ := hf
  have run := va_runS (g := F0 m pc ls st0) (l := l) (p := p) (e := e) (below := below) (meth := meth) (locs := locs) (cells := 0) (slots := 0) (rest := rest) ⟨hx, hb, hml, hown, hts⟩ hM (va_cwS (R := R) n hts (good_S hlink f2 f3 f4) rfl hr.1 hr.2.1 ⟨f5, f6, f7⟩ hr.2.2) ⟨mPc_blind, mPc_at hK hw⟩ rfl hn hsz hst (lv_room hro) hdg ⟨Nat.zero_le _, Nat.zero_le _⟩
  exact va_callv run hS (fun _ _ h => h) (fun _ h => h) (fun u t H1 locs1 ht hvm hp hB hz hk hS1 => kk u H1 locs1 hp (wd_eq ht.symm hB) hS1)
theorem m_cVr {post : S → Prop} {av : S → Nat} {ok : S → Prop} (X : cx p m meth c s args cc nL own D tys) (hsz : ls.size = nL) (hw : wd D A T H) (hS : va_S A H0 H locs) (hM : Met l y (Cond.code y bytes maxL ret :: wsA) rm (mPc D tys A T (.ref b :: As)) (va_Qr post (fun u a t => a = av u ∧ ok u ∧ wd D A (TT u) t.heap) A) 0 0 A) (hlink : Cond.methodLink own index y ∈ wsA) (hf : vfit y bytes maxL ret n) {ci : Nat} {fs : List Value} (hT : T (b, .inr (ci, fs))) {q : vw_C} (hc : vwCl[ci]? = some q) (hq : q.1 = y.cls) (hr : rfit rm R maxL) (hn : As.length = n) (hst : st0 = As.reverse ++ .ref b :: rest) (hro : (rest.map fun v => v.category).sum ≤ 8) (hdg : decode cc pc = .ok (.invokevirtual index, 3))
    (kk : ∀ (u : S) (H1 : Heap) (locs1 : List Loc), post u → ok u → wd D A (TT u) H1 → va_S A H0 H1 locs1 → W p l e R s m args below meth c H1 locs1 0 0 Q (F0 m (pc + 3) ls (.ref (av u) :: rest))) : W p l e R s m args below meth c H locs 0 0 Q (F0 m pc ls st0) := by
  obtain ⟨hx, hb, hml, hown, hts, hK, hlk⟩ := X
  obtain ⟨f1, f2, f3, f4, f5, f6, f7⟩ := hf
  obtain ⟨ws, hP, hD, hm⟩ := id hw
  obtain ⟨k0, hk0⟩ := hm _ hT
  have hrec := va_recv hK.1 hP hc hk0
  rw [hq] at hrec
  have run := va_runV (g := F0 m pc ls st0) (l := l) (p := p) (e := e) (below := below) (meth := meth) (locs := locs) (cells := 0) (slots := 0) (rest := rest) ⟨hx, hb, hml, hown, hts⟩ hM (cwV (R := R) n hts (good_V hlink f1 f2 f3 f4) rfl hr.1 hr.2.1 ⟨rfl, f5, f6, f7⟩ hr.2.2) ⟨mPc_blind, hrec, mPc_at hK hw⟩ rfl hn hsz hst (lv_room hro) hdg ⟨Nat.zero_le _, Nat.zero_le _⟩
  exact va_callr run hS (fun _ _ h => h) (fun _ h => h) (fun u ra t H1 locs1 ht hvm hp hB hz hk hS1 => by rw [hB.1]; exact kk u H1 locs1 hp hB.2.1 (wd_eq ht.symm hB.2.2) hS1)
theorem m_iret {post : Int32 → S → Prop} {v : Int32} {u : S} (X : cx p m meth c s args cc nL own D tys) (hr : meth.sig.returnType = some .int) (hw : wd D A (TT u) H) (hS : va_S A s.heap H locs) (hp : post v u) (hdg : decode cc pc = .ok (.ireturn, 1)) : W p l e R s m args below meth c H locs 0 0 (MQ below (va_Qi post (fun u t => wd D A (TT u) t.heap) A) args s 0 0 A) (F0 m pc ls [.int v]) :=
  W.iret X.1 X.2.1 hr (fun t ht _ => ⟨⟨v, u, rfl, hp, wd_eq ht hw⟩, hS.F ht⟩) hS.2.2 hdg X.2.2.2.2.2.2
theorem m_zret {post : Int32 → S → Prop} {v : Int32} {u : S} (X : cx p m meth c s args cc nL own D tys) (hr : meth.sig.returnType = some .boolean) (hv : narrow .boolean (.int v) = .int v) (hw : wd D A (TT u) H) (hS : va_S A s.heap H locs) (hp : post v u) (hdg : decode cc pc = .ok (.ireturn, 1)) : W p l e R s m args below meth c H locs 0 0 (MQ below (va_Qi post (fun u t => wd D A (TT u) t.heap) A) args s 0 0 A) (F0 m pc ls [.int v]) :=
  W.zret X.1 X.2.1 hr hv (fun t ht _ => ⟨⟨v, u, rfl, hp, wd_eq ht hw⟩, hS.F ht⟩) hS.2.2 hdg X.2.2.2.2.2.2
theorem m_lret {post : Int64 → S → Prop} {v : Int64} {u : S} (X : cx p m meth c s args cc nL own D tys) (hr : meth.sig.returnType = some .long) (hw : wd D A (TT u) H) (hS : va_S A s.heap H locs) (hp : post v u) (hdg : decode cc pc = .ok (.lreturn, 1)) : W p l e R s m args below meth c H locs 0 0 (MQ below (va_Ql post (fun u t => wd D A (TT u) t.heap) A) args s 0 0 A) (F0 m pc ls [.long v]) :=
  W.lret X.1 X.2.1 hr (fun t ht _ => ⟨⟨v, u, rfl, hp, wd_eq ht hw⟩, hS.F ht⟩) hS.2.2 hdg X.2.2.2.2.2.2
theorem m_vret {post : S → Prop} {u : S} (X : cx p m meth c s args cc nL own D tys) (hr : meth.sig.returnType = none) (hw : wd D A (TT u) H) (hS : va_S A s.heap H locs) (hp : post u) (hdg : decode cc pc = .ok (.return_, 1)) : W p l e R s m args below meth c H locs 0 0 (MQ below (va_Qv post (fun u t => wd D A (TT u) t.heap) A) args s 0 0 A) (F0 m pc ls []) :=
  W.vret X.1 X.2.1 hr (fun t ht _ => ⟨⟨u, rfl, hp, wd_eq ht hw⟩, hS.F ht⟩) hS.2.2 hdg X.2.2.2.2.2.2
theorem m_aret {post : S → Prop} {av : S → Nat} {ok : S → Prop} {u : S} {C : String} (X : cx p m meth c s args cc nL own D tys) (hr : meth.sig.returnType = some (.object C)) (hw : wd D A (TT u) H) (hS : va_S A s.heap H locs) (hp : post u) (hok : ok u) {v : Nat} (hv : v = av u) (hdg : decode cc pc = .ok (.areturn, 1)) : W p l e R s m args below meth c H locs 0 0 (MQ below (va_Qr post (fun u a t => a = av u ∧ ok u ∧ wd D A (TT u) t.heap) A) args s 0 0 A) (F0 m pc ls [.ref v]) :=
  W.aret X.1 X.2.1 hr (Or.inl ⟨C, rfl⟩) (Or.inr ⟨v, rfl⟩) (fun t ht _ => ⟨⟨u, v, rfl, hp, hv, hok, wd_eq ht hw⟩, hS.F ht⟩) hS.2.2 hdg X.2.2.2.2.2.2
end MC
/-- at a label with an empty stack: from every heap that holds the world -/
def cW (p : Program) (l : Launch) (e : Env) (R : Room) (s : State) (m : MethodId) (args : Array Value) (below : List Frame) (meth : Method) (c : Code) (Qs : State → Prop) (D : va_G) (A : Nat → Prop) (T : Nat × va_E → Prop) (pc nL : Nat) (lv : List (Nat × Value)) : Prop :=
  ∀ (H : Heap) (locs : List Loc) (ls : Array Slot), wd D A T H → va_S A s.heap H locs → lv_has ls nL lv → W p l e R s m args below meth c H locs 0 0 Qs (F0 m pc ls [])
theorem m_met {l : Launch} {y : MethodName} {bytes : ByteArray} {maxL : Nat} {ret : Option FieldType} {rm : Room} {D : va_G} {tys : List (ClassId × FieldType)} {A : Nat → Prop} {T : Nat × va_E → Prop} {av : List Value} {Qc : Array Value → State → Outcome → State → Prop} (hy : plainName y.cls = true) (hfit : (lg_sl av).length ≤ maxL)
    (body : ∀ (p : Program) (e : Env) (s : State) (m : MethodId) (below : List Frame) (meth : Method) (c : Code), cx p m meth c s av.toArray bytes maxL y.cls D tys → meth.sig.returnType = ret → cW p l e rm s m av.toArray below meth c (MQ below Qc av.toArray s 0 0 A) D A T 0 maxL (lv_args 0 av)) : Met l y (Cond.code y bytes maxL ret :: wsA) rm (mPc D tys A T av) Qc 0 0 A := by
  refine Met.ofW (cc := bytes) (maxL := maxL) (ret := ret) hy rfl ?_
  intro p e s m args below meth c s₁ B hml hv
  obtain ⟨rfl, hk, hw⟩ := hv
  have hts := atoms_spec (ws := Cond.code y bytes maxL ret :: wsA) B.pre
  have hown : s.vm.findClass y.cls = some m.cls := findClass_of_methodNamed B.named
  have K := body p e s m below meth c ⟨B.exec, B.bytes, hml, hown, fun w h => hts w (List.mem_cons_of_mem _ h), hk, B.notSynchronized⟩ B.returns
  rw [lg_entry_eq]
  exact K s.heap [] _ hw va_S.rf (lv_entry av hfit)
