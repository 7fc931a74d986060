/-! CONSTRUCTORS: worlds that grow, at addresses that are counted from the heap's size -/
def hs (D : va_G) (T : Nat × va_E → Prop) (H : Heap) : Prop := ∀ q, T q → va_at D vwCl q H
def kn2 (D : va_G) (g : mG) (U : State) : Prop := kn D (tyG g) U ∧ va_AO RX3 U ∧ va_AO RX2 U
theorem kn2.warm {D : va_G} {g : mG} {s U : State} (hW : s.WarmedH U.vm) (h : kn2 D g s) : kn2 D g U := ⟨h.1.warm hW, h.2.1.moved hW.alike, h.2.2.moved hW.alike⟩
theorem kn2.calling {D : va_G} {g : mG} {U : State} (f : JFrame) (mk : MethodId) (a : Array Value) (h : kn2 D g U) : kn2 D g (U.calling f mk a) := ⟨h.1.calling f mk a, va_AO.moved (u := U) (U := U.calling f mk a) (Vm.Alike.refl U.vm) h.2.1, va_AO.moved (u := U) (U := U.calling f mk a) (Vm.Alike.refl U.vm) h.2.2⟩
def fA (b z : Nat) : Nat → Prop := fun q => q = b ∨ z ≤ q
def nPc (D : va_G) (g : mG) (z : Nat) (T : Nat × va_E → Prop) (av : List Value) : Array Value → State → Prop := va_Pc av (fun U => U.heap.size = z ∧ kn2 D g U ∧ hs D T U.heap)
def nQc (D : va_G) (b z z1 : Nat) (T : Nat × va_E → Prop) : Array Value → State → Outcome → State → Prop := va_Qv (fun _ : Unit => True) (fun _ t => t.heap.size = z1 ∧ hs D T t.heap) (fA b z)
theorem nPc_blind {D : va_G} {g : mG} {z : Nat} {T : Nat × va_E → Prop} {av : List Value} : FrameBlind (nPc D g z T av) := by
  intro a U f mk h
  exact ⟨h.1, h.2.1, h.2.2.1.calling f mk a, h.2.2.2⟩
theorem good_I {y : MethodName} {bytes : ByteArray} {maxL : Nat} {ret : Option FieldType} (h5 : Cond.code y bytes maxL ret ∈ wsA) : GoodIn wsA (Cond.code y bytes maxL ret :: wsA) := by
  intro w hw
  have hm : w ∈ wsA := by
    rcases List.mem_cons.mp hw with rfl | q
    · exact h5
    · exact q
  exact ⟨hm, wsA_good w hm⟩
theorem arr_congr {cA : ClassId} {n : Nat} {f f' : Nat → Value} (h : ∀ j, j < n → f j = f' j) : arrV cA n f = arrV cA n f' := by
  unfold arrV
  congr 1
  apply Array.ext
  · simp
  · intro i h1 h2
    simp at h1
    simp [h i h1]
/-- the context of a constructor's walk -/
def cy (p : Program) (m : MethodId) (meth : Method) (c : Code) (s : State) (args : Array Value) (cc : ByteArray) (nL : Nat) (own : String) (D : va_G) (g : mG) : Prop := cx p m meth c s args cc nL own D (tyG g) ∧ va_AO RX3 s ∧ va_AO RX2 s ∧ meth.name = "<init>"
section NC
variable {p : Program} {l : Launch} {e : Env} {R : Room} {s : State} {m : MethodId} {args : Array Value} {below : List Frame} {meth : Method} {c : Code} {H : Heap} {locs : List Loc} {Q : State → Prop}
variable {cc : ByteArray} {pc : Nat} {ls : Array Slot} {rest : List Value} {D : va_G} {A : Nat → Prop} {a b z z1 : Nat} {g : mG} {H0 : Heap} {T T' Tc Tc' : Nat × va_E → Prop} {own : String} {nL cells slots mc ms : Nat}

theorem n_new (Y : cx p m meth c s args cc nL own D (tyG g)) (hz : H.size = z) (hw : hs D T H) (hS : va_S A H0 H locs) {C : String} {TT : u_T} {N ci index : Nat} (hc : vwCl[ci]? = some (C, TT, N)) (hin : ∀ w ∈ u_ws C TT N, w ∈ wsA) (ty : Nat → FieldType) (hty : ∀ k, k < N → parseFieldDescriptor (TT k).2.2.1 = some (ty k)) (hcl : Cond.classLink own index C ∈ wsA) (hinst : Cond.instantiable C N ∈ wsA) (hini : Cond.initialized C ∈ wsA) {fs : List Value} (hfs : ∀ j, j < N → defaultValue (ty j) = vp_V fs j) (hcells : cells + 1 ≤ R.cells) (hslots : slots + N ≤ R.slots) (hT' : ∀ q, T' q → q = (z, .inr (ci, fs)) ∨ T q) (hdg : decode cc pc = .ok (.new index, 3))
    (kk : ∀ H1 : Heap, hs D T' H1 → H1.size = z + 1 → va_S A H0 H1 locs → W p l e R s m args below meth c H1 locs (cells + 1) (slots + N) Q (F0 m (pc + 3) ls (.ref z :: rest))) : W p l e R s m args below meth c H locs cells slots Q (F0 m pc ls rest) := by
  obtain ⟨hx, hb, hml, hown, hts, hK, hlk⟩ := Y
  have hKn := hK.1.1 ci _ hc
  subst hz
  refine W.newcK hx hb hown (hts _ hcl) (hts _ hinst) (hts _ hini) rfl hdg hcells hslots hKn.2.1 rfl fun H1 kC hkC e1 z1 o1 => ?_
  refine kk H1 (fun q hq => ?_) z1 ⟨Nat.le_trans hS.1 (by omega), fun x h1 h2 => (o1 x (Nat.lt_of_lt_of_le h1 hS.1)).trans (hS.2.1 x h1 h2), hS.2.2⟩
  rcases hT' q hq with rfl | h
  · exact ⟨_, hc, (u_born ty hts hin hKn hkC e1 hty).to hfs⟩
  · exact (hw q h).kept (o1 q.1 (hw q h).lt)
theorem n_newa (Y : cx p m meth c s args cc nL own D (tyG g)) (hz : H.size = z) (hw : hs D T H) (hS : va_S A H0 H locs) {atype : ArrayType} {ty : FieldType} (hty : newarray.typeOf atype = ty) (harr : Cond.arrayClass ty ∈ wsA) (t0 : Nat) {cA : ClassId} (ht : (tyG g)[t0]? = some (cA, ty)) (hnm : va_RA s cA ty → s.vm.findClass ("[" ++ ty.toString) = some cA) {n : Int32} {N : Nat} {a0 : vp_A} (ha : ∀ cA : ClassId, vp_cell cA a0 = arrV cA N (fun _ => defaultValue ty)) (hn : ¬ n < 0) (hN : n.toNatClampNeg = N) (hbytes : N * componentBytes ty ≤ 536870912) (hcells : cells + 1 ≤ R.cells) (hslots : slots + N ≤ R.slots) (hT' : ∀ q, T' q → q = (z, .inl (cA, a0)) ∨ T q) (hdg : decode cc pc = .ok (.newarray atype, 2))
    (kk : ∀ H1 : Heap, hs D T' H1 → H1.size = z + 1 → va_S A H0 H1 locs → W p l e R s m args below meth c H1 locs (cells + 1) (slots + N) Q (F0 m (pc + 2) ls (.ref z :: rest))) : W p l e R s m args below meth c H locs cells slots Q (F0 m pc ls (.int n :: rest)) := by
  obtain ⟨hx, hb, hml, hown, hts, hK, hlk⟩ := Y
  subst hty
  subst hz
  refine va_newaK hx hb (hts _ harr) rfl hdg rfl hn hN hbytes hcells hslots rfl fun H1 cA1 e1 z1 o1 hAr hNm => ?_
  have hcA : cA1 = cA := Option.some.inj (hNm.symm.trans (hnm (hK.1.2 t0 _ ht).2))
  subst hcA
  refine kk H1 (fun q hq => ?_) z1 ⟨Nat.le_trans hS.1 (by omega), fun x h1 h2 => (o1 x (Nat.lt_of_lt_of_le h1 hS.1)).trans (hS.2.1 x h1 h2), hS.2.2⟩
  rcases hT' q hq with rfl | h
  · show H1[H.size]? = some (vp_cell _ _)
    rw [ha]
    exact e1
  · exact (hw q h).kept (o1 q.1 (hw q h).lt)
theorem n_newq (Y : cx p m meth c s args cc nL own D (tyG g)) (hz : H.size = z) (hw : hs D T H) (hS : va_S A H0 H locs) {C : String} {index : Nat} (hcl : Cond.classLink own index C ∈ wsA) (hover : va_AO C s) (t0 : Nat) {cA : ClassId} (ht : (tyG g)[t0]? = some (cA, .object C)) {n : Int32} {N : Nat} (hn : ¬ n < 0) (hN : n.toNatClampNeg = N) (hbytes : N * 4 ≤ 536870912) (hcells : cells + 1 ≤ R.cells) (hslots : slots + N ≤ R.slots) (hT' : ∀ q, T' q → q = (z, .inl (cA, N, .inr (.inr (.inr (.inr (fun _ => none)))))) ∨ T q) (hdg : decode cc pc = .ok (.anewarray index, 3))
    (kk : ∀ H1 : Heap, hs D T' H1 → H1.size = z + 1 → va_S A H0 H1 locs → W p l e R s m args below meth c H1 locs (cells + 1) (slots + N) Q (F0 m (pc + 3) ls (.ref z :: rest))) : W p l e R s m args below meth c H locs cells slots Q (F0 m pc ls (.int n :: rest)) := by
  obtain ⟨hx, hb, hml, hown, hts, hK, hlk⟩ := Y
  subst hN
  subst hz
  refine W.anew hx hb hown (hts _ hcl) (va_AO.use hover) rfl hdg rfl hn hbytes hcells hslots fun cA1 kA comp f1 f2 f3 f4 => ?_
  have hcA : cA1 = cA := by
    obtain ⟨_, _, -, -, -, h4⟩ := (hK.1.2 t0 _ ht).2
    exact Option.some.inj (f1.symm.trans h4)
  subst hcA
  generalize hH1 : H.push ({ cls := cA1, slots := Array.replicate n.toNatClampNeg .null, vm := .none } : Cell) = H1
  have z1 : H1.size = H.size + 1 := by rw [← hH1, Array.size_push]
  have e1 : H1[H.size]? = some (arrV cA1 n.toNatClampNeg (fun _ => .null)) := by rw [← hH1, Array.getElem?_push_size, ← arrV_new]
  have o1 : ∀ q : Nat, q < H.size → H1[q]? = H[q]? := fun q hq => by rw [← hH1, Array.getElem?_push, if_neg (Nat.ne_of_lt hq)]
  refine kk H1 (fun q hq => ?_) z1 ⟨Nat.le_trans hS.1 (by omega), fun x h1 h2 => (o1 x (Nat.lt_of_lt_of_le h1 hS.1)).trans (hS.2.1 x h1 h2), hS.2.2⟩
  rcases hT' q hq with rfl | h
  · exact e1
  · exact (hw q h).kept (o1 q.1 (hw q h).lt)
theorem n_get (Y : cx p m meth c s args cc nL own D (tyG g)) (hw : hs D T H) {ci : Nat} {fs : List Value} (hT : T (a, .inr (ci, fs))) {C : String} {TT : u_T} {N index : Nat} (hc : vwCl[ci]? = some (C, TT, N)) (hin : ∀ w ∈ u_ws C TT N, w ∈ wsA) (k : Nat) (hk : k < N) (hlink : Cond.fieldLink own index (TT k).1 (TT k).2.1 (TT k).2.2.1 ∈ wsA) {v : Value} (hv : fs[k]? = some v) (hdg : decode cc pc = .ok (.getfield index, 3))
    (kk : W p l e R s m args below meth c H locs cells slots Q (F0 m (pc + 3) ls (v :: rest))) : W p l e R s m args below meth c H locs cells slots Q (F0 m pc ls (.ref a :: rest)) := by
  obtain ⟨hx, hb, hml, hown, hts, hK, hlk⟩ := Y
  exact va_get (ws := [(a, .inr (ci, fs))]) hx hb hts hin hown hK.1 (fun k q h => by
    rcases k with _ | k
    · cases h
      exact hw _ hT
    · simp at h) 0 rfl hc k hk (hts _ hlink) (fun _ h => h) hv hdg kk
theorem n_getN (Y : cx p m meth c s args cc nL own D (tyG g)) (hw : hs D T H) {ci : Nat} {fs : List Value} (hT : T (a, .inr (ci, fs))) {C host : String} {TT : u_T} {N index : Nat} (hc : vwCl[ci]? = some (C, TT, N)) (hin : ∀ w ∈ u_ws C TT N, w ∈ wsA) (k : Nat) (hk : k < N) (hlink : Cond.fieldLinkNest own index (TT k).1 (TT k).2.1 (TT k).2.2.1 host ∈ nestW) {v : Value} (hv : fs[k]? = some v) (hdg : decode cc pc = .ok (.getfield index, 3))
    (kk : W p l e R s m args below meth c H locs cells slots Q (F0 m (pc + 3) ls (v :: rest))) : W p l e R s m args below meth c H locs cells slots Q (F0 m pc ls (.ref a :: rest)) := by
  obtain ⟨hx, hb, hml, hown, hts, hK, hlk⟩ := Y
  exact va_getN (ws := [(a, .inr (ci, fs))]) hx hb hts hin hown hK.1 (fun k q h => by
    rcases k with _ | k
    · cases h
      exact hw _ hT
    · simp at h) 0 rfl hc k hk (va_Nw.use rfl (hK.2 _ hlink)) (fun _ h => h) hv hdg kk
theorem n_putF (Y : cx p m meth c s args cc nL own D (tyG g)) (hin2 : meth.name = "<init>") (hw : hs D T H) (hS : va_S A H0 H locs) (hA : A a) {ci : Nat} {fs : List Value} (hT : T (a, .inr (ci, fs))) {C : String} {TT : u_T} {N index : Nat} (hc : vwCl[ci]? = some (C, TT, N)) (hin : ∀ w ∈ u_ws C TT N, w ∈ wsA) (ty0 : Nat → FieldType) (hty : ∀ k, k < N → parseFieldDescriptor (TT k).2.2.1 = some (ty0 k)) (hnm : ∀ a, a < N → ∀ b, b < N → a ≠ b → (TT a).2.1 ≠ (TT b).2.1) (k : Nat) (hk : k < N) (hlink : Cond.fieldLink own index (TT k).1 (TT k).2.1 (TT k).2.2.1 ∈ wsA) (hfin : (TT k).2.2.2 = true) (hdecl : (TT k).1 = own) {v : Value} (hn : narrow (ty0 k) v = v) (hfit : fits (ty0 k) v = true) (hl : k < fs.length) (hT' : ∀ q, T' q → q = (a, .inr (ci, fs.set k v)) ∨ (T q ∧ q.1 ≠ a)) (hdg : decode cc pc = .ok (.putfield index, 3))
    (kk : ∀ (H1 : Heap) (locs1 : List Loc), hs D T' H1 → H1.size = H.size → va_S A H0 H1 locs1 → W p l e R s m args below meth c H1 locs1 cells slots Q (F0 m (pc + 3) ls rest)) : W p l e R s m args below meth c H locs cells slots Q (F0 m pc ls (v :: .ref a :: rest)) := by
  obtain ⟨hx, hb, hml, hown, hts, hK0, hlk⟩ := Y
  have hK := hK0.1
  have hap := va_apart (own := own) hts hin ty0 hty hnm hK hc
  obtain ⟨r, h1, cell, q1, q2, q3, q4⟩ := hw _ hT
  have hr : r = (C, TT, N) := Option.some.inj (h1.symm.trans hc)
  subst hr
  obtain ⟨hS1, hfc, kC, hkC, hkind⟩ := hK.1 ci _ hc
  obtain ⟨cf, kf, fi, f, hi, hsl⟩ := hS1 k hk
  have hlay := hts _ (hin _ (u_in_lay hk))
  unfold u_lay at hlay
  rw [if_pos hfin] at hlay
  have hst := (u_facts hfc hkC (u_lays hts hin hk) hi).1
  have hcf : m.cls = cf := by
    obtain ⟨_, _, c', _, _, _, -, -, hf', -, -, -, hown2, -⟩ := Cond.laysFinal_spec hlay
    have e1 : c' = cf := by have := hi.symm.trans hf'; simp at this; exact this.1.symm
    rw [hdecl] at hown2
    rw [← e1]; exact Option.some.inj (hown.symm.trans hown2)
  have h6 := u_fits hfc hkC hkind (Or.inr hlay) hi (hty k hk) hn hfit
  refine W.putFinK hx hb hown (hts _ hlink) hi hst hcf hin2 (by rw [q2]; exact h6) q1 q3 (by rw [hsl]; exact k2_hasslot (q4 k hk)) rfl rfl hdg fun H' e1 e2 e3 => ?_
  rw [hsl] at e1 ⊢
  refine kk H' _ (fun q hq => ?_) e2 (hS.put e2 e3 hA)
  rcases hT' q hq with rfl | ⟨h, hne⟩
  · exact ⟨_, hc, t_OB.to (V := updV (vp_V fs) k v) ⟨_, e1, q2, q3, t_set q4 hap hk v⟩ (fun j _ => vp_updV_set hl v j)⟩
  · exact (hw q h).kept (e3 q.1 hne)
theorem n_put (Y : cx p m meth c s args cc nL own D (tyG g)) (hw : hs D T H) (hS : va_S A H0 H locs) (hA : A a) {ci : Nat} {fs : List Value} (hT : T (a, .inr (ci, fs))) {C : String} {TT : u_T} {N index : Nat} (hc : vwCl[ci]? = some (C, TT, N)) (hin : ∀ w ∈ u_ws C TT N, w ∈ wsA) (ty0 : Nat → FieldType) (hty : ∀ k, k < N → parseFieldDescriptor (TT k).2.2.1 = some (ty0 k)) (hnm : ∀ a, a < N → ∀ b, b < N → a ≠ b → (TT a).2.1 ≠ (TT b).2.1) (k : Nat) (hk : k < N) (hlink : Cond.fieldLink own index (TT k).1 (TT k).2.1 (TT k).2.2.1 ∈ wsA) (hfin : (TT k).2.2.2 = false) {v : Value} (hn : narrow (ty0 k) v = v) (hfit : fits (ty0 k) v = true) (hl : k < fs.length) (hT' : ∀ q, T' q → q = (a, .inr (ci, fs.set k v)) ∨ (T q ∧ q.1 ≠ a)) (hdg : decode cc pc = .ok (.putfield index, 3))
    (kk : ∀ (H1 : Heap) (locs1 : List Loc), hs D T' H1 → H1.size = H.size → va_S A H0 H1 locs1 → W p l e R s m args below meth c H1 locs1 cells slots Q (F0 m (pc + 3) ls rest)) : W p l e R s m args below meth c H locs cells slots Q (F0 m pc ls (v :: .ref a :: rest)) := by
  obtain ⟨hx, hb, hml, hown, hts, hK0, hlk⟩ := Y
  have hK := hK0.1
  have hap := va_apart (own := own) hts hin ty0 hty hnm hK hc
  obtain ⟨r, h1, cell, q1, q2, q3, q4⟩ := hw _ hT
  have hr : r = (C, TT, N) := Option.some.inj (h1.symm.trans hc)
  subst hr
  obtain ⟨hS1, hfc, kC, hkC, hkind⟩ := hK.1 ci _ hc
  obtain ⟨cf, kf, fi, f, hi, hsl⟩ := hS1 k hk
  have hlay := hts _ (hin _ (u_in_lay hk))
  unfold u_lay at hlay
  rw [if_neg (by rw [hfin]; decide)] at hlay
  have hst := (u_facts hfc hkC (u_lays hts hin hk) hi).1
  have h6 := u_store hfc hkC hkind hlay hi (hty k hk) hn hfit
  refine W.putK hx hb (f := f) ⟨hown, hts _ hlink, ⟨_, _, _, hi⟩, hst⟩ (by rw [q2]; exact h6) q1 q3 (by rw [hsl]; exact k2_hasslot (q4 k hk)) rfl rfl hdg fun H' e1 e2 e3 => ?_
  rw [hsl] at e1 ⊢
  refine kk H' _ (fun q hq => ?_) e2 (hS.put e2 e3 hA)
  rcases hT' q hq with rfl | ⟨h, hne⟩
  · exact ⟨_, hc, t_OB.to (V := updV (vp_V fs) k v) ⟨_, e1, q2, q3, t_set q4 hap hk v⟩ (fun j _ => vp_updV_set hl v j)⟩
  · exact (hw q h).kept (e3 q.1 hne)
theorem n_aast (Y : cx p m meth c s args cc nL own D (tyG g)) (hw : hs D T H) (hS : va_S A H0 H locs) (hA : A a) {cA : ClassId} {r : vw_C} {n v ci : Nat} {vs : List Value} {f : Nat → Option Nat} (hTa : T (a, .inl (cA, n, .inr (.inr (.inr (.inr f)))))) (t0 : Nat) (ht : (tyG g)[t0]? = some (cA, .object r.1)) (hTv : T (v, .inr (ci, vs))) (hc : vwCl[ci]? = some r) {i : Int32} (hin : vp_in i n) (hT' : ∀ q, T' q → q = (a, .inl (cA, n, .inr (.inr (.inr (.inr (va_up f i.toNatClampNeg (some v))))))) ∨ (T q ∧ q.1 ≠ a)) (hdg : decode cc pc = .ok (.aastore, 1))
    (kk : ∀ (H1 : Heap) (locs1 : List Loc), hs D T' H1 → H1.size = H.size → va_S A H0 H1 locs1 → W p l e R s m args below meth c H1 locs1 cells slots Q (F0 m (pc + 1) ls rest)) : W p l e R s m args below meth c H locs cells slots Q (F0 m pc ls (.ref v :: .int i :: .ref a :: rest)) := by
  obtain ⟨hx, hb, hml, hown, hts, hK0, hlk⟩ := Y
  have hK := hK0.1
  have hlt : i.toNatClampNeg < n := Nat.not_le.mp fun q => hin (Or.inr q)
  have h0 : ¬ i < 0 := fun q => hin (Or.inl q)
  obtain ⟨r', hr', cellV, g1, g2, g3, -⟩ := hw _ hTv
  have hcls := (hK.1 ci r hc).2
  obtain ⟨kA, comp, k1, k2, k3, -⟩ := (hK.2 t0 _ ht).2
  have hcomp : comp = D.1 ci := Option.some.inj (k3.symm.trans hcls.1)
  subst hcomp
  obtain ⟨kC, hkC, -⟩ := hcls.2
  refine W.aast hx hb (hw _ hTa) (fun q h => by cases h) (fun h => by cases h) k1 k2 rfl hkC ⟨h0, by show _ < (arrV _ _ _).slots.size; rw [arrV_size]; exact hlt⟩ g1 (fun q h => by rw [g3] at h; cases h) (by rw [g2]; exact hkC) (by rw [g2]; exact va_assign hcls) rfl rfl hdg fun H1 e z oq => ?_
  refine kk H1 _ (fun q hq => ?_) z (hS.put z oq hA)
  rcases hT' q hq with rfl | ⟨h, hne⟩
  · show H1[a]? = some (vp_cell _ _)
    rw [e]
    rw [vp_cell_q, vp_cell_q, arrV_store]
    congr 2
    funext q
    by_cases hq : q = i.toNatClampNeg
    · subst hq
      simp [updV, va_up, va_rf]
    · simp [updV, va_up, hq]
  · exact (hw q h).kept (oq q.1 hne)
theorem n_iast (Y : cx p m meth c s args cc nL own D (tyG g)) (hw : hs D T H) (hS : va_S A H0 H locs) (hA : A a) {cA : ClassId} {n : Nat} {f : Nat → Int32} (hTa : T (a, .inl (cA, n, .inl f))) (t0 : Nat) (ht : (tyG g)[t0]? = some (cA, .int)) {i x : Int32} (hin : vp_in i n) (hT' : ∀ q, T' q → q = (a, .inl (cA, n, .inl (upd f i.toNatClampNeg x))) ∨ (T q ∧ q.1 ≠ a)) (hdg : decode cc pc = .ok (.iastore, 1))
    (kk : ∀ (H1 : Heap) (locs1 : List Loc), hs D T' H1 → H1.size = H.size → va_S A H0 H1 locs1 → W p l e R s m args below meth c H1 locs1 cells slots Q (F0 m (pc + 1) ls rest)) : W p l e R s m args below meth c H locs cells slots Q (F0 m pc ls (.int x :: .int i :: .ref a :: rest)) := by
  obtain ⟨hx, hb, hml, hown, hts, hK0, hlk⟩ := Y
  refine W.iast hx hb (hw _ hTa) ((hK0.1.2 t0 _ ht).1 n (fun j => .int (f j))) (fun q => by cases q) (by show ¬ (i < 0 ∨ (arrV _ _ _).slots.size ≤ _); rw [arrV_size]; exact hin) rfl rfl hdg fun H1 e z oq => ?_
  refine kk H1 _ (fun q hq => ?_) z (hS.put z oq hA)
  rcases hT' q hq with rfl | ⟨h, hne⟩
  · show H1[a]? = some (vp_cell _ _)
    rw [e]
    rw [vp_cell_i, vp_cell_i, arrV_store]
    congr 2
    funext q
    by_cases hq : q = i.toNatClampNeg
    · subst hq
      simp [updV, upd]
    · simp [updV, upd, hq]
  · exact (hw q h).kept (oq q.1 hne)
theorem n_obj (Y : cx p m meth c s args cc nL own D (tyG g)) (hsz : ls.size = nL) {index : Nat} (hlink : Cond.methodLink own index objectInit ∈ wsA) (hframes : 1 ≤ R.frames) (hlocals : (rest.map fun v => v.category).sum + 12 ≤ R.locals) (hro : (rest.map fun v => v.category).sum ≤ 8) (hdg : decode cc pc = .ok (.invokespecial index, 3)) (kk : W p l e R s m args below meth c H locs cells slots Q (F0 m (pc + 3) ls rest)) : W p l e R s m args below meth c H locs cells slots Q (F0 m pc ls (.ref a :: rest)) := by
  obtain ⟨hx, hb, hml, hown, hts, hK0, hlk⟩ := Y
  exact W.objInit hx hb hown (hts _ hlink) (hts _ mw_10) (hts _ mw_11) rfl (by rw [hml]; exact hsz) rfl hdg hframes (by simpa [JFrame.monitorRoom] using hlocals) kk
theorem n_callI {y : MethodName} {bytes : ByteArray} {maxL n index : Nat} {rm : Room} {As st0 : List Value} (Y : cx p m meth c s args cc nL own D (tyG g)) (hk2 : kn2 D g s) (hsz : ls.size = nL) (hz : H.size = z) (hw : hs D T H) (hS : va_S A H0 H locs) (hAb : A b) (hA0 : ∀ q, z ≤ q → A q) (hM : Met l y (Cond.code y bytes maxL none :: wsA) rm (nPc D g z Tc (.ref b :: As)) (nQc D b z z1 Tc') mc ms (fA b z)) (hTc : ∀ q, Tc q → T q) (hlink : Cond.methodLink own index y ∈ wsA) (hins : Cond.instanceMethod y ∈ wsA) (hini : Cond.initialized y.cls ∈ wsA) (hcode : Cond.code y bytes maxL none ∈ wsA) (hy : y.name = "<init>") (hd : y.cls ≠ "java/lang/invoke/MethodHandle" ∧ y.cls ≠ "java/lang/invoke/VarHandle" ∧ (parseMethodDescriptor y.desc).map (fun d => d.parameters.length) = some n) (hrc : rm.cells = mc) (hrs : rm.slots = ms) (hR : rm.frames + 1 ≤ R.frames ∧ 8 + (maxL + 11) + rm.locals ≤ R.locals) (hcs : cells + mc ≤ R.cells ∧ slots + ms ≤ R.slots) (hn : As.length = n) (hst : st0 = As.reverse ++ .ref b :: rest) (hro : (rest.map fun v => v.category).sum ≤ 8) (hT' : ∀ q, T' q → Tc' q ∨ (T q ∧ q.1 ≠ b)) (hdg : decode cc pc = .ok (.invokespecial index, 3))
    (kk : ∀ (H1 : Heap) (locs1 : List Loc), hs D T' H1 → H1.size = z1 → va_S A H0 H1 locs1 → W p l e R s m args below meth c H1 locs1 (cells + mc) (slots + ms) Q (F0 m (pc + 3) ls rest)) : W p l e R s m args below meth c H locs cells slots Q (F0 m pc ls st0) := by
  obtain ⟨hx, hb, hml, hown, hts, hK0, hlk⟩ := Y
  have run := va_runI (g := F0 m pc ls st0) (l := l) (p := p) (e := e) (below := below) (meth := meth) (locs := locs) (cells := cells) (slots := slots) (rest := rest) (H := H) ⟨hx, hb, hml, hown, hts⟩ hM (cwI (R := R) n hts (good_I hcode) rfl hrc hrs (hts _ hini) (hts _ hlink) (hts _ hins) hy hd hR) ⟨nPc_blind, fun U hU hW => ⟨rfl, by rw [hU]; exact hz, hk2.warm hW, by rw [hU]; exact fun q h => hw q (hTc q h)⟩⟩ rfl hn hsz hst (lv_room hro) hdg hcs
  refine va_callv run hS (fun q hq h => ?_) (fun q h => ?_) (fun u t H1 locs1 ht hvm hp hB hz2 hk hS1 => ?_)
  · rcases h with rfl | h
    · exact hAb
    · exact hA0 q h
  · rcases h with rfl | h
    · exact hAb
    · exact hA0 q h
  · obtain ⟨hB1, hB2⟩ := hB
    rw [ht] at hB1 hB2
    refine kk H1 locs1 (fun q hq => ?_) hB1 hS1
    rcases hT' q hq with h | ⟨h, hne⟩
    · exact hB2 q h
    · have hlt := (hw q h).lt
      exact (hw q h).kept (hk q.1 hlt (fun hf => by
        rcases hf with hf | hf
        · exact hne hf
        · omega))
theorem n_callIN {y : MethodName} {bytes : ByteArray} {maxL n index : Nat} {rm : Room} {As st0 : List Value} {host : String} (Y : cx p m meth c s args cc nL own D (tyG g)) (hk2 : kn2 D g s) (hsz : ls.size = nL) (hz : H.size = z) (hw : hs D T H) (hS : va_S A H0 H locs) (hAb : A b) (hA0 : ∀ q, z ≤ q → A q) (hM : Met l y (Cond.code y bytes maxL none :: wsA) rm (nPc D g z Tc (.ref b :: As)) (nQc D b z z1 Tc') mc ms (fA b z)) (hTc : ∀ q, Tc q → T q) (hlink : Cond.methodLinkNest own index y host ∈ nestW) (hins : Cond.instanceMethod y ∈ wsA) (hini : Cond.initialized y.cls ∈ wsA) (hcode : Cond.code y bytes maxL none ∈ wsA) (hy : y.name = "<init>") (hd : y.cls ≠ "java/lang/invoke/MethodHandle" ∧ y.cls ≠ "java/lang/invoke/VarHandle" ∧ (parseMethodDescriptor y.desc).map (fun d => d.parameters.length) = some n) (hrc : rm.cells = mc) (hrs : rm.slots = ms) (hR : rm.frames + 1 ≤ R.frames ∧ 8 + (maxL + 11) + rm.locals ≤ R.locals) (hcs : cells + mc ≤ R.cells ∧ slots + ms ≤ R.slots) (hn : As.length = n) (hst : st0 = As.reverse ++ .ref b :: rest) (hro : (rest.map fun v => v.category).sum ≤ 8) (hT' : ∀ q, T' q → Tc' q ∨ (T q ∧ q.1 ≠ b)) (hdg : decode cc pc = .ok (.invokespecial index, 3))
    (kk : ∀ (H1 : Heap) (locs1 : List Loc), hs D T' H1 → H1.size = z1 → va_S A H0 H1 locs1 → W p l e R s m args below meth c H1 locs1 (cells + mc) (slots + ms) Q (F0 m (pc + 3) ls rest)) : W p l e R s m args below meth c H locs cells slots Q (F0 m pc ls st0) := by
  obtain ⟨hx, hb, hml, hown, hts, hK0, hlk⟩ := Y
  have run := va_runIN (g := F0 m pc ls st0) (l := l) (p := p) (e := e) (below := below) (meth := meth) (locs := locs) (cells := cells) (slots := slots) (rest := rest) (H := H) ⟨hx, hb, hml, hown, hts⟩ hM ⟨va_cnB (R := R) (args := args) n hts (good_I hcode) rfl hrc hrs (hK0.2 _ hlink) (hts _ hini) hd hR, hy, hts _ hins⟩ ⟨nPc_blind, fun U hU hW => ⟨rfl, by rw [hU]; exact hz, hk2.warm hW, by rw [hU]; exact fun q h => hw q (hTc q h)⟩⟩ rfl hn hsz hst (lv_room hro) hdg hcs
  refine va_callv run hS (fun q hq h => ?_) (fun q h => ?_) (fun u t H1 locs1 ht hvm hp hB hz2 hk hS1 => ?_)
  · rcases h with rfl | h
    · exact hAb
    · exact hA0 q h
  · rcases h with rfl | h
    · exact hAb
    · exact hA0 q h
  · obtain ⟨hB1, hB2⟩ := hB
    rw [ht] at hB1 hB2
    refine kk H1 locs1 (fun q hq => ?_) hB1 hS1
    rcases hT' q hq with h | ⟨h, hne⟩
    · exact hB2 q h
    · have hlt := (hw q h).lt
      exact (hw q h).kept (hk q.1 hlt (fun hf => by
        rcases hf with hf | hf
        · exact hne hf
        · omega))
theorem n_vret (Y : cx p m meth c s args cc nL own D (tyG g)) (hr : meth.sig.returnType = none) (hw : hs D T H) (hz1 : H.size = z1) (hS : va_S (fA b z) s.heap H locs) (hdg : decode cc pc = .ok (.return_, 1)) : W p l e R s m args below meth c H locs mc ms (MQ below (nQc D b z z1 T) args s mc ms (fA b z)) (F0 m pc ls []) :=
  W.vret Y.1 Y.2.1 hr (fun t ht _ => ⟨⟨(), rfl, trivial, by rw [ht]; exact hz1, by rw [ht]; exact hw⟩, hS.F ht⟩) hS.2.2 hdg Y.2.2.2.2.2.2
end NC
theorem n_met {l : Launch} {y : MethodName} {bytes : ByteArray} {maxL mc ms z z1 b : Nat} {rm : Room} {D : va_G} {g : mG} {T T1 : Nat × va_E → Prop} {av : List Value} (hy : plainName y.cls = true) (hni : y.name = "<init>") (hfit : (lg_sl av).length ≤ maxL)
    (body : ∀ (p : Program) (e : Env) (s : State) (m : MethodId) (below : List Frame) (meth : Method) (c : Code), cx p m meth c s av.toArray bytes maxL y.cls D (tyG g) → kn2 D g s → meth.name = "<init>" → meth.sig.returnType = none → s.heap.size = z → hs D T s.heap → ∀ ls : Array Slot, lv_has ls maxL (lv_args 0 av) → W p l e rm s m av.toArray below meth c s.heap [] 0 0 (MQ below (nQc D b z z1 T1) av.toArray s mc ms (fA b z)) (F0 m 0 ls [])) : Met l y (Cond.code y bytes maxL none :: wsA) rm (nPc D g z T av) (nQc D b z z1 T1) mc ms (fA b z) := by
  refine Met.ofW (cc := bytes) (maxL := maxL) (ret := none) hy rfl ?_
  intro p e s m args below meth c s₁ B hml hv
  obtain ⟨rfl, hz, hk, hw⟩ := hv
  have hts := atoms_spec (ws := Cond.code y bytes maxL none :: wsA) B.pre
  have hown : s.vm.findClass y.cls = some m.cls := findClass_of_methodNamed B.named
  have hin : meth.name = "<init>" := by rw [(name_of_methodNamed B.named B.method).1]; exact hni
  have K := body p e s m below meth c ⟨B.exec, B.bytes, hml, hown, fun w h => hts w (List.mem_cons_of_mem _ h), hk.1, B.notSynchronized⟩ hk hin B.returns hz hw
  rw [lg_entry_eq]
  exact K _ (lv_entry av hfit)
