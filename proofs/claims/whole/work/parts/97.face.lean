/-! PURE: the face: registers, the hand, deliver and result -/
def Hand : Type := Option (Nat × Nat × Nat × Int32 × (Nat → Nat))
def RelC (σ : CS) (c : Nat → Row) (h : Hand) : Prop := (∀ p, p < 8 → Pl σ p (c p)) ∧ (∀ p, p < 8 → ∀ i, (c p i).natAbs < 2147483648 ^ 6) ∧
  match h with
  | none => cK σ 1 = -1
  | some (r, i, n, s, w) => cK σ 1 = nI r ∧ cK σ 2 = nI i ∧ cK σ 3 = s ∧ cK σ 4 = nI n ∧ ∀ k, k < n → cF σ (16 * r + i) k = nI (w k)
def RelR (ρ : RS) (c : Nat → Row) (h : Hand) : Prop := (∀ p, p < 8 → PR ρ p (c p)) ∧
  match h with
  | none => rK ρ 0 = -1
  | some (r, i, n, s, w) => rK ρ 0 = nI r ∧ rK ρ 1 = nI i ∧ rK ρ 2 = s ∧ rK ρ 3 = nI n ∧ ∀ k, k < n → rH ρ k = nI (w k)
def HOK (c : Nat → Row) (h : Hand) : Prop :=
  match h with
  | none => True
  | some (r, i, n, s, w) => r < 8 ∧ i < 9 ∧ n ≤ 6 ∧ (s = 1 ∨ s = -1) ∧ (∀ k, k < n → w k < 2147483648) ∧ (c r i).natAbs = mg w n ∧ (c r i ≠ 0 → sg32 (c r i) = s)
def Rel (σ : CS) (ρ : RS) : Prop := ∃ c h, RelC σ c h ∧ RelR ρ c h ∧ HOK c h
theorem RelC.cx {σ σ' : CS} {c : Nat → Row} {h : Hand} (hR : RelC σ c h) (hH : HOK c h) (hc : Cx σ σ' cxS cxD) : RelC σ' c h := by
  refine ⟨fun p hp => (hR.1 p hp).reg hc hp, hR.2.1, ?_⟩
  have h3 := hR.2.2
  rcases h with _ | ⟨r, i, n, s, w⟩
  · show cK σ' 1 = -1
    rw [hc.2.2 1 (by omega)]
    exact h3
  · obtain ⟨k1, k2, k3, k4, k5⟩ := h3
    have hH' : r < 8 ∧ i < 9 ∧ _ := hH
    refine ⟨by rw [hc.2.2 1 (by omega)]; exact k1, by rw [hc.2.2 2 (by omega)]; exact k2, by rw [hc.2.2 3 (by omega)]; exact k3, by rw [hc.2.2 4 (by omega)]; exact k4, fun k hk => ?_⟩
    rw [(hc.1 (16 * r + i) (by unfold cxS; omega)).1]
    exact k5 k hk
theorem RelR.cz {ρ ρ' : RS} {c : Nat → Row} {h : Hand} (hR : RelR ρ c h) (hc : Cz ρ ρ' loS loD) : RelR ρ' c h := by
  refine ⟨fun p hp => ?_, ?_⟩
  · obtain ⟨k1, k2, k3⟩ := hR.1 p hp
    refine ⟨fun i hi => ?_, k2, by rw [hc.2.1 p (by unfold loD; omega)]; exact k3⟩
    obtain ⟨s, E, h1, h2, h3, h4, h5, h6⟩ := k1 i hi
    obtain ⟨c1, c2, c3⟩ := hc.1 (9 * p + i) (by unfold loS; omega)
    exact ⟨s, E, h1, by rw [c2]; exact h2, fun k hk => by rw [c1 k (by omega)]; exact h3 k hk, h4, h5, by rw [c3]; exact h6⟩
  · have h3 := hR.2
    rcases h with _ | ⟨r, i, n, s, w⟩
    · show rK ρ' 0 = -1
      rw [hc.2.2.2 0 (by omega)]
      exact h3
    · obtain ⟨k1, k2, k3, k4, k5⟩ := h3
      exact ⟨by rw [hc.2.2.2 0 (by omega)]; exact k1, by rw [hc.2.2.2 1 (by omega)]; exact k2, by rw [hc.2.2.2 2 (by omega)]; exact k3, by rw [hc.2.2.2 3 (by omega)]; exact k4, fun k hk => by rw [hc.2.2.1]; exact k5 k hk⟩
theorem reg_or (x : Int32) : (∃ p, p < 8 ∧ x = nI p) ∨ (x < 0 ∨ (8 : Int32) ≤ x) := by
  rcases pk_ix x (n := 8) (by omega) with h | h | ⟨j, h1, h2⟩
  · exact Or.inr (Or.inl h)
  · exact Or.inr (Or.inr h)
  · exact Or.inl ⟨j, h1, h2⟩
theorem pow_or (x : Int32) : (∃ p, p < 9 ∧ x = nI p) ∨ (x < 0 ∨ (8 : Int32) < x) := by
  rcases pk_ix x (n := 9) (by omega) with h | h | ⟨j, h1, h2⟩
  · exact Or.inr (Or.inl h)
  · refine Or.inr (Or.inr ?_)
    rw [Int32.lt_iff_toInt_lt]
    rw [Int32.le_iff_toInt_le] at h
    have e1 : (nI 9).toInt = 9 := by decide
    have e2 : (8 : Int32).toInt = 8 := by decide
    omega
  · exact Or.inl ⟨j, h1, h2⟩
theorem isR4_t {p : Nat} {σ : CS} {Q : Int32 → CS → Prop} (hp : p < 8) (h : Q 1 σ) : wpX4_isRegister (nI p) σ Q := by
  show wpX4_isRegister_0 (nI p) Q σ
  unfold wpX4_isRegister_0
  exact ⟨fun h1 => absurd h1 (nI_pos (by omega)), fun _ => ⟨fun h1 => absurd h1 (nI_ge (b := 8) hp (by omega)), fun _ => h⟩⟩
theorem isR4_f {x : Int32} {σ : CS} {Q : Int32 → CS → Prop} (hx : x < 0 ∨ (8 : Int32) ≤ x) (h : Q 0 σ) : wpX4_isRegister x σ Q := by
  show wpX4_isRegister_0 x Q σ
  unfold wpX4_isRegister_0 wpX4_isRegister_14
  exact ⟨fun _ => h, fun h1 => ⟨fun _ => h, fun h2 => absurd (hx.resolve_left h1) h2⟩⟩
theorem isR5_t {p : Nat} {ρ : RS} {Q : Int32 → RS → Prop} (hp : p < 8) (h : Q 1 ρ) : wpX5_isRegister (nI p) ρ Q := by
  show wpX5_isRegister_0 (nI p) Q ρ
  unfold wpX5_isRegister_0
  exact ⟨fun h1 => absurd h1 (nI_pos (by omega)), fun _ => ⟨fun h1 => absurd h1 (nI_ge (b := 8) hp (by omega)), fun _ => h⟩⟩
theorem isR5_f {x : Int32} {ρ : RS} {Q : Int32 → RS → Prop} (hx : x < 0 ∨ (8 : Int32) ≤ x) (h : Q 0 ρ) : wpX5_isRegister x ρ Q := by
  show wpX5_isRegister_0 x Q ρ
  unfold wpX5_isRegister_0 wpX5_isRegister_14
  exact ⟨fun _ => h, fun h1 => ⟨fun _ => h, fun h2 => absurd (hx.resolve_left h1) h2⟩⟩
theorem isP5_t {p : Nat} {ρ : RS} {Q : Int32 → RS → Prop} (hp : p < 9) (h : Q 1 ρ) : wpX5_isPower (nI p) ρ Q := by
  show wpX5_isPower_0 (nI p) Q ρ
  unfold wpX5_isPower_0
  exact ⟨fun h1 => absurd h1 (nI_pos (by omega)), fun _ => ⟨fun h1 => absurd h1 (nI_nlt (a := 8) (by omega) (by omega)), fun _ => h⟩⟩
theorem isP5_f {x : Int32} {ρ : RS} {Q : Int32 → RS → Prop} (hx : x < 0 ∨ (8 : Int32) < x) (h : Q 0 ρ) : wpX5_isPower x ρ Q := by
  show wpX5_isPower_0 x Q ρ
  unfold wpX5_isPower_0 wpX5_isPower_14
  exact ⟨fun _ => h, fun h1 => ⟨fun _ => h, fun h2 => absurd (hx.resolve_left h1) h2⟩⟩
theorem isC4_t {p i : Nat} {σ : CS} {Q : Int32 → CS → Prop} (hp : p < 8) (hi : i < 9) (h : Q 1 σ) : wpX4_isCoefficient (nI p) (nI i) σ Q := by
  show wpX4_isCoefficient_0 (nI p) (nI i) Q σ
  unfold wpX4_isCoefficient_0
  exact isR4_t hp ⟨fun h1 => absurd h1 (by decide), fun _ => ⟨fun h1 => absurd h1 (nI_pos (by omega)), fun _ => ⟨fun h1 => absurd h1 (nI_nlt (a := 8) (by omega) (by omega)), fun _ => h⟩⟩⟩
theorem isC4_f1 {x y : Int32} {σ : CS} {Q : Int32 → CS → Prop} (hx : x < 0 ∨ (8 : Int32) ≤ x) (h : Q 0 σ) : wpX4_isCoefficient x y σ Q := by
  show wpX4_isCoefficient_0 x y Q σ
  unfold wpX4_isCoefficient_0 wpX4_isCoefficient_21
  exact isR4_f hx ⟨fun _ => h, fun h1 => absurd rfl h1⟩
theorem isC4_f2 {p : Nat} {y : Int32} {σ : CS} {Q : Int32 → CS → Prop} (hp : p < 8) (hy : y < 0 ∨ (8 : Int32) < y) (h : Q 0 σ) : wpX4_isCoefficient (nI p) y σ Q := by
  show wpX4_isCoefficient_0 (nI p) y Q σ
  unfold wpX4_isCoefficient_0 wpX4_isCoefficient_21
  exact isR4_t hp ⟨fun h1 => absurd h1 (by decide), fun _ => ⟨fun _ => h, fun h1 => ⟨fun _ => h, fun h2 => absurd (hy.resolve_left h1) h2⟩⟩⟩
/-- three registers, or not -/
theorem are4 {x1 x2 x3 : Int32} {σ : CS} {Q : Int32 → CS → Prop} (ht : ∀ a b d, a < 8 → b < 8 → d < 8 → x1 = nI a → x2 = nI b → x3 = nI d → Q 1 σ) (hf : ((x1 < 0 ∨ (8 : Int32) ≤ x1) ∨ (x2 < 0 ∨ (8 : Int32) ≤ x2) ∨ (x3 < 0 ∨ (8 : Int32) ≤ x3)) → Q 0 σ) : wpX4_areRegisters x1 x2 x3 σ Q := by
  show wpX4_areRegisters_0 x1 x2 x3 Q σ
  unfold wpX4_areRegisters_0 wpX4_areRegisters_25
  rcases reg_or x1 with ⟨a, ha, e1⟩ | e1
  · rw [e1]
    refine isR4_t ha ⟨fun h1 => absurd h1 (by decide), fun _ => ?_⟩
    rcases reg_or x2 with ⟨b, hb, e2⟩ | e2
    · rw [e2]
      refine isR4_t hb ⟨fun h1 => absurd h1 (by decide), fun _ => ?_⟩
      rcases reg_or x3 with ⟨d, hd, e3⟩ | e3
      · rw [e3]
        exact isR4_t hd ⟨fun h1 => absurd h1 (by decide), fun _ => ht a b d ha hb hd e1 e2 e3⟩
      · exact isR4_f e3 ⟨fun _ => hf (Or.inr (Or.inr e3)), fun h1 => absurd rfl h1⟩
    · exact isR4_f e2 ⟨fun _ => hf (Or.inr (Or.inl e2)), fun h1 => absurd rfl h1⟩
  · exact isR4_f e1 ⟨fun _ => hf (Or.inl e1), fun h1 => absurd rfl h1⟩
def setC (c : Nat → Row) (d : Nat) (Y : Row) (p : Nat) : Row := if p = d then Y else c p
theorem setC_e (c : Nat → Row) (d : Nat) (Y : Row) : setC c d Y d = Y := if_pos rfl
theorem setC_n {c : Nat → Row} {d p : Nat} {Y : Row} (h : p ≠ d) : setC c d Y p = c p := if_neg h
def dropH (h : Hand) (d : Nat) : Hand :=
  match h with
  | none => none
  | some a => if a.1 = d then none else some a
theorem drop_t {q i n d : Nat} {s : Int32} {w : Nat → Nat} (e : q = d) : dropH (some (q, i, n, s, w)) d = none := if_pos e
theorem drop_f {q i n d : Nat} {s : Int32} {w : Nat → Nat} (e : q ≠ d) : dropH (some (q, i, n, s, w)) d = some (q, i, n, s, w) := if_neg e
/-- what a result becomes -/
def Dl (c : Nat → Row) (h : Hand) (d : Nat) (Y : Row) (r : Int32) (c' : Nat → Row) (h' : Hand) : Prop := (r = 0 ∧ (∀ i, (Y i).natAbs < 2147483648 ^ 6) ∧ c' = setC c d Y ∧ h' = dropH h d) ∨ (r = 3 ∧ (∃ i, ¬ (Y i).natAbs < 2147483648 ^ 6) ∧ c' = c ∧ h' = h)
theorem Dl.fn {c c1 c2 : Nat → Row} {h h1 h2 : Hand} {d : Nat} {Y : Row} {r1 r2 : Int32} (a : Dl c h d Y r1 c1 h1) (b : Dl c h d Y r2 c2 h2) : r1 = r2 ∧ c1 = c2 ∧ h1 = h2 := by
  rcases a with ⟨a1, a2, a3, a4⟩ | ⟨a1, ⟨i, a2⟩, a3, a4⟩ <;> rcases b with ⟨b1, b2, b3, b4⟩ | ⟨b1, ⟨j, b2⟩, b3, b4⟩
  · exact ⟨by rw [a1, b1], by rw [a3, b3], by rw [a4, b4]⟩
  · exact absurd (a2 j) b2
  · exact absurd (b2 i) a2
  · exact ⟨by rw [a1, b1], by rw [a3, b3], by rw [a4, b4]⟩
theorem Dl.hok {c c' : Nat → Row} {h h' : Hand} {d : Nat} {Y : Row} {r : Int32} (a : Dl c h d Y r c' h') (hH : HOK c h) : HOK c' h' := by
  rcases a with ⟨a1, a2, a3, a4⟩ | ⟨a1, a2, a3, a4⟩
  · rw [a3, a4]
    rcases h with _ | ⟨q, i, n, s, w⟩
    · trivial
    · by_cases e : q = d
      · rw [drop_t e]
        trivial
      · rw [drop_f e]
        show _ ∧ _ ∧ _ ∧ _ ∧ _ ∧ (setC c d Y q i).natAbs = mg w n ∧ (setC c d Y q i ≠ 0 → sg32 (setC c d Y q i) = s)
        rw [setC_n e]
        exact hH
  · rw [a3, a4]
    exact hH
theorem tl8 {p : Nat} (h : p < 8) : tlen p = 9 := by unfold tlen; omega
theorem cp8 {p : Nat} (h : p < 8) : capP p = 6 := by unfold capP; rw [if_pos h]
theorem sp_deliver {d q : Nat} {Y : Row} {c : Nat → Row} {h : Hand} {σ : CS} {Q : Int32 → CS → Prop} (hd : d < 8) (hq : 8 ≤ q) (hq2 : q < 20) (hC : RelC σ c h) (hH : HOK c h) (hY : Pl σ q Y)
    (hQ : ∀ r σ' c' h', Dl c h d Y r c' h' → RelC σ' c' h' → Q r σ') : wpX4_deliver (nI d) q σ Q := by
  show wpX4_deliver_0 (nI d) q Q σ
  unfold wpX4_deliver_0 wpX4_deliver_32
  refine sp_fits hY (fun r hr => ?_)
  rcases hr with ⟨e, hf⟩ | ⟨e, i, hi, hf⟩
  · subst e
    refine ⟨fun _ => ⟨pk_in d _ hd, ?_⟩, fun h1 => absurd h1 (by decide)⟩
    rw [nI_clamp (by omega)]
    refine sp_pload (by omega) (by omega) hY (fun i _ => by rw [cp8 hd]; exact hf i) (fun i hi => hY.i9 i (by rw [tl8 hd] at hi; exact hi)) (fun σ1 f1 f2 => ?_)
    have hreg : ∀ p, p < 8 → Pl σ1 p (setC c d Y p) := fun p hp => by
      by_cases e : p = d
      · rw [e, setC_e]
        exact f1
      · rw [setC_n e]
        exact (hC.1 p hp).cg f2 (fun w hw => inP_ne e hw) e
    have hbd : ∀ p, p < 8 → ∀ i, (setC c d Y p i).natAbs < 2147483648 ^ 6 := fun p hp i => by
      by_cases e : p = d
      · rw [e, setC_e]
        exact hf i
      · rw [setC_n e]
        exact hC.2.1 p hp i
    have h3 := hC.2.2
    have hk : ∀ k, cK σ1 k = cK σ k := f2.2.2
    have hDl : Dl c h d Y 0 (setC c d Y) (dropH h d) := Or.inl ⟨rfl, hf, rfl, rfl⟩
    rw [hk 1]
    rcases h with _ | ⟨r, i, n, s, w⟩
    · have h3' : cK σ 1 = -1 := h3
      rw [h3']
      exact ⟨fun _ => hQ 0 σ1 _ _ hDl ⟨hreg, hbd, by show cK σ1 1 = -1; rw [hk 1]; exact h3'⟩, fun h1 => absurd h1.symm (nI_m1 (by omega))⟩
    · obtain ⟨k1, k2, k3, k4, k5⟩ := h3
      have hH' : r < 8 ∧ i < 9 ∧ _ := hH
      have hdr : dropH (some (r, i, n, s, w)) d = if r = d then none else some (r, i, n, s, w) := rfl
      rw [k1]
      refine ⟨fun h1 => ?_, fun h1 => ?_⟩
      · have e : r ≠ d := fun e => h1 (by rw [e])
        refine hQ 0 σ1 _ _ hDl ⟨hreg, hbd, ?_⟩
        rw [hdr, if_neg e]
        refine ⟨by rw [hk]; exact k1, by rw [hk]; exact k2, by rw [hk]; exact k3, by rw [hk]; exact k4, fun k hkn => ?_⟩
        rw [(f2.1 (16 * r + i) (by unfold inP; omega)).1]
        exact k5 k hkn
      · have e : r = d := (nI_eq (by omega) (by omega)).mp h1
        refine hQ 0 _ _ _ hDl ⟨fun p hp => ?_, hbd, ?_⟩
        · exact hreg p hp
        · rw [hdr, if_pos e]
          show cK (sK σ1 1 (-1)) 1 = -1
          unfold cK sK
          exact up_eq (f := σ1.2.2.2.2) (k := 1)
  · subst e
    exact ⟨fun h1 => absurd rfl h1, fun _ => hQ 3 σ c h (Or.inr ⟨rfl, ⟨i, hf⟩, rfl, rfl⟩) hC⟩
theorem b186 : (2147483648 : Nat) ^ 6 = 2 ^ 186 := by decide +kernel
theorem sp_rresult {d s : Nat} {Y : Row} {c : Nat → Row} {h : Hand} {ρ : RS} {Q : Int32 → RS → Prop} (hd : d < 8) (hs : 8 ≤ s) (hs2 : s < 24) (hC : RelR ρ c h) (hH : HOK c h) (hY : PR ρ s Y)
    (hQ : ∀ r ρ' c' h', Dl c h d Y r c' h' → RelR ρ' c' h' → Q r ρ') : wpX5_result (nI d) (nI s) ρ Q := by
  show wpX5_result_0 (nI d) (nI s) Q ρ
  unfold wpX5_result_0
  refine lp_upR (I := fun k τ => τ = ρ ∧ ∀ i, i < k → (Y i).natAbs < 2147483648 ^ 6) 9 (by omega) ?_ ρ ⟨rfl, fun i hi => absurd hi (by omega)⟩
  rintro N k τ hk ⟨rfl, hL⟩ hN
  unfold wbX5_result_2 wpX5_result_57
  refine pk_le 9 k (fun h1 => ?_) (fun h1 => ?_) rfl rfl (by omega) (by omega)
  · have hf : ∀ i, (Y i).natAbs < 2147483648 ^ 6 := fun i => by
      rcases Nat.lt_or_ge i 9 with e | e
      · exact hL i (by omega)
      · rw [hY.2.1 i e]
        exact Nat.pow_pos (by omega)
    refine sp_rcopyAll (by omega) (by omega) (by omega) hY (fun ρ1 f1 f2 => ?_)
    have hreg : ∀ p, p < 8 → PR ρ1 p (setC c d Y p) := fun p hp => by
      by_cases e : p = d
      · rw [e, setC_e]
        exact f1
      · rw [setC_n e]
        exact (hC.1 p hp).cp f2 e
    have h3 := hC.2
    have hkk : rK ρ1 = rK τ := f2.2.2.2
    have hhh : rH ρ1 = rH τ := f2.2.2.1
    have hDl : Dl c h d Y 0 (setC c d Y) (dropH h d) := Or.inl ⟨rfl, hf, rfl, rfl⟩
    have hw : ∀ v : Int32, rK (wK ρ1 0 v) 0 = v := fun v => by rw [rK_wK, if_pos rfl]
    have hwn : ∀ (v : Int32) k, k ≠ 0 → rK (wK ρ1 0 v) k = rK τ k := fun v k hk => by rw [rK_wK, if_neg hk, hkk]
    rw [hkk]
    rcases h with _ | ⟨r, i, n, s', w⟩
    · have h3' : rK τ 0 = -1 := h3
      rw [h3']
      exact ⟨fun _ => hQ 0 _ _ _ hDl ⟨hreg, by show rK (wK ρ1 0 (-1)) 0 = -1; rw [hw]⟩, fun h1 => absurd h1.symm (nI_m1 (by omega))⟩
    · obtain ⟨k1, k2, k3, k4, k5⟩ := h3
      have hH' : r < 8 ∧ i < 9 ∧ _ := hH
      have hdr : dropH (some (r, i, n, s', w)) d = if r = d then none else some (r, i, n, s', w) := rfl
      rw [k1]
      refine ⟨fun h1 => ?_, fun h1 => ?_⟩
      · have e : r ≠ d := fun e => h1 (by rw [e])
        refine hQ 0 _ _ _ hDl ⟨hreg, ?_⟩
        rw [hdr, if_neg e]
        refine ⟨hw _, by rw [hwn _ _ (by omega)]; exact k2, by rw [hwn _ _ (by omega)]; exact k3, by rw [hwn _ _ (by omega)]; exact k4, fun k hkn => ?_⟩
        show rH ρ1 k = _
        rw [hhh]
        exact k5 k hkn
      · have e : r = d := (nI_eq (by omega) (by omega)).mp h1
        refine hQ 0 _ _ _ hDl ⟨hreg, ?_⟩
        rw [hdr, if_pos e]
        exact hw _
  · rw [at_eq, ia]
    refine sp_rbits (by omega) (hY.1 k (by omega)) (fun b hb hB => ?_)
    rw [show (186 : Int32) = nI 186 from rfl, nI_leI (by omega) (by omega)]
    have hiff : b ≤ 186 ↔ (Y k).natAbs < 2147483648 ^ 6 := by
      rw [b186]
      exact ⟨fun h2 => Nat.lt_of_lt_of_le hB.1 (Nat.pow_le_pow_right (by omega) h2), fun h2 => hB.le h2⟩
    rw [hiff]
    refine ⟨fun h2 a7 ha7 => ?_, fun h2 => hQ 3 τ c h (Or.inr ⟨rfl, ⟨k, h2⟩, rfl, rfl⟩) hC⟩
    subst ha7
    refine hN _ h1 ⟨rfl, fun i hi => ?_⟩
    rcases Nat.eq_or_lt_of_le (Nat.le_of_lt_succ hi) with e | e
    · rw [e]; exact h2
    · exact hL i e
theorem fin_dl {c c1 c2 : Nat → Row} {h h1 h2 : Hand} {d : Nat} {Y Y' : Row} {r1 r2 : Int32} {σ : CS} {ρ : RS} (hH : HOK c h) (a : Dl c h d Y r1 c1 h1) (b : Dl c h d Y' r2 c2 h2) (hY : Y = Y') (hC : RelC σ c1 h1) (hR : RelR ρ c2 h2) : r1 = r2 ∧ Rel σ ρ := by
  subst hY
  obtain ⟨e1, e2, e3⟩ := a.fn b
  subst e2 e3
  exact ⟨e1, c1, h1, hC, hR, a.hok hH⟩
