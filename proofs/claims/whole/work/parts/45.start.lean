/-! the address of each code, counted from the start of the law; the worlds behind the constructors -/
def pOff (p : Nat) : Nat := [2, 22, 42, 62, 82, 102, 122, 142, 164, 184, 221, 241, 261, 279, 295, 309, 321, 331, 339, 345].getD p 0
def okb (k : Nat) : Bool := ((k % 4 == 0 || k % 4 == 1) && ((k / 4 < 320 && k / 4 % 16 < tlen (k / 4 / 16)) || (320 ≤ k / 4 && k / 4 < 328))) || ((k % 4 == 2 || k % 4 == 3) && k / 4 < 20) || k == 2002 || k == 2006 || k == 2010 || k == 2003 || k == 2007 || (5000 ≤ k && k ≤ 5005)
def off (k : Nat) : Nat :=
  if okb k = true then
    if 5000 ≤ k then 349 + (k - 5000)
    else if k = 2002 then 163 else if k = 2006 then 162 else if k = 2010 then 0 else if k = 2003 then 212 else if k = 2007 then 1
    else if k % 4 = 2 then pOff (k / 4) else if k % 4 = 3 then pOff (k / 4) + 1
    else if k / 4 < 320 then pOff (k / 4 / 16) + 2 + 2 * (k / 4 % 16) + k % 4
    else if k / 4 < 324 then 204 + 2 * (k / 4 - 320) + k % 4 else 213 + 2 * (k / 4 - 324) + k % 4
  else 1000 + k
def rev (n : Nat) : Nat := if n < 355 then [2010, 2007, 2, 3, 0, 1, 4, 5, 8, 9, 12, 13, 16, 17, 20, 21, 24, 25, 28, 29, 32, 33, 6, 7, 64, 65, 68, 69, 72, 73, 76, 77, 80, 81, 84, 85, 88, 89, 92, 93, 96, 97, 10, 11, 128, 129, 132, 133, 136, 137, 140, 141, 144, 145, 148, 149, 152, 153, 156, 157, 160, 161, 14, 15, 192, 193, 196, 197, 200, 201, 204, 205, 208, 209, 212, 213, 216, 217, 220, 221, 224, 225, 18, 19, 256, 257, 260, 261, 264, 265, 268, 269, 272, 273, 276, 277, 280, 281, 284, 285, 288, 289, 22, 23, 320, 321, 324, 325, 328, 329, 332, 333, 336, 337, 340, 341, 344, 345, 348, 349, 352, 353, 26, 27, 384, 385, 388, 389, 392, 393, 396, 397, 400, 401, 404, 405, 408, 409, 412, 413, 416, 417, 30, 31, 448, 449, 452, 453, 456, 457, 460, 461, 464, 465, 468, 469, 472, 473, 476, 477, 480, 481, 2006, 2002, 34, 35, 512, 513, 516, 517, 520, 521, 524, 525, 528, 529, 532, 533, 536, 537, 540, 541, 544, 545, 38, 39, 576, 577, 580, 581, 584, 585, 588, 589, 592, 593, 596, 597, 600, 601, 604, 605, 608, 609, 1280, 1281, 1284, 1285, 1288, 1289, 1292, 1293, 2003, 1296, 1297, 1300, 1301, 1304, 1305, 1308, 1309, 42, 43, 640, 641, 644, 645, 648, 649, 652, 653, 656, 657, 660, 661, 664, 665, 668, 669, 672, 673, 46, 47, 704, 705, 708, 709, 712, 713, 716, 717, 720, 721, 724, 725, 728, 729, 732, 733, 736, 737, 50, 51, 768, 769, 772, 773, 776, 777, 780, 781, 784, 785, 788, 789, 792, 793, 796, 797, 54, 55, 832, 833, 836, 837, 840, 841, 844, 845, 848, 849, 852, 853, 856, 857, 58, 59, 896, 897, 900, 901, 904, 905, 908, 909, 912, 913, 916, 917, 62, 63, 960, 961, 964, 965, 968, 969, 972, 973, 976, 977, 66, 67, 1024, 1025, 1028, 1029, 1032, 1033, 1036, 1037, 70, 71, 1088, 1089, 1092, 1093, 1096, 1097, 74, 75, 1152, 1153, 1156, 1157, 78, 79, 1216, 1217, 5000, 5001, 5002, 5003, 5004, 5005].getD n 0 else n - 1000
set_option maxRecDepth 100000 in
theorem rev_off_c : (List.range 5006).all (fun k => rev (off k) == k) = true := by decide +kernel
theorem rev_off (k : Nat) : rev (off k) = k := by
  by_cases h : k < 5006
  · have h1 := List.all_eq_true.mp rev_off_c k (List.mem_range.mpr h)
    exact beq_iff_eq.mp h1
  · have hb : okb k = false := by
      unfold okb
      have e1 : (k == 2002) = false := by simp; omega
      have e2 : (k == 2006) = false := by simp; omega
      have e3 : (k == 2010) = false := by simp; omega
      have e4 : (k == 2003) = false := by simp; omega
      have e5 : (k == 2007) = false := by simp; omega
      have e6 : decide (k ≤ 5005) = false := by simp; omega
      have e7 : decide (k / 4 < 320) = false := by simp; omega
      have e8 : decide (k / 4 < 328) = false := by simp; omega
      have e9 : decide (k / 4 < 20) = false := by simp; omega
      rw [e1, e2, e3, e4, e5, e6, e7, e8, e9]
      simp
    unfold off
    rw [if_neg (by rw [hb]; decide)]
    unfold rev
    rw [if_neg (by omega)]
    omega
def gZ (z : Nat) (c : ClassId × ClassId × ClassId × ClassId) : mG := (fun k => z + off k, c)
theorem gZ_inj (z : Nat) (c : ClassId × ClassId × ClassId × ClassId) : inj (gZ z c) := by
  intro i j h
  have h1 : off i = off j := Nat.add_left_cancel h
  rw [← rev_off i, ← rev_off j, h1]
def σ0 : CS := (fun _ _ => 0, fun _ => 0, fun _ => 0, fun _ => -1, fun k => if k = 1 then -1 else 0)
def ρ0 : RS := (fun _ => 0, fun _ => 0, fun _ => 0, fun _ => -1, fun _ => 0, fun k => if k = 0 then -1 else 0)
set_option maxRecDepth 100000 in
theorem off_t : ∀ p, p < 20 → ∀ i, i < 9 → i < tlen p → off (4 * (16 * p + i)) = pOff p + 2 + 2 * i ∧ off (4 * (16 * p + i) + 1) = pOff p + 3 + 2 * i := by decide +kernel
theorem off_p : ∀ p, p < 20 → off (4 * p + 2) = pOff p ∧ off (4 * p + 3) = pOff p + 1 := by decide +kernel
def capP (p : Nat) : Nat := if p < 8 then 6 else if p = 8 then 300 else if p = 9 then 60 else 100
theorem cap_t : ∀ p, p < 20 → ∀ i, i < 9 → capW (16 * p + i) = capP p := by decide +kernel
theorem tlen_pos : ∀ p, p < 20 → 1 ≤ tlen p ∧ tlen p ≤ 9 := by decide +kernel
/-- a constructed poly holds its cells -/
theorem at_pT {D : va_G} {z p : Nat} {c : ClassId × ClassId × ClassId × ClassId} {H : Heap} (hp : p < 20) (h : hs D (pT (gZ z c) (z + pOff p) (z + pOff p + 1) (tlen p - 1) (capP p)) H) :
    va_at D vwCl ((gZ z c).1 (4 * p + 2), cellC (gZ z c) σ0 (4 * p + 2)) H ∧ va_at D vwCl ((gZ z c).1 (4 * p + 3), cellC (gZ z c) σ0 (4 * p + 3)) H ∧ ∀ i, i < tlen p → va_at D vwCl ((gZ z c).1 (4 * (16 * p + i)), cellC (gZ z c) σ0 (4 * (16 * p + i))) H ∧ va_at D vwCl ((gZ z c).1 (4 * (16 * p + i) + 1), cellC (gZ z c) σ0 (4 * (16 * p + i) + 1)) H := by
  obtain ⟨o1, o2⟩ := off_p p hp
  obtain ⟨t1, t2⟩ := tlen_pos p hp
  refine ⟨?_, ?_, fun i hi => ?_⟩
  · rw [cell_P _ _ _ hp]
    have h1 := h _ (Or.inl rfl)
    have e1 : (gZ z c).1 (4 * p + 2) = z + pOff p := by show z + off (4 * p + 2) = _; rw [o1]
    have e2 : (gZ z c).1 (4 * p + 3) = z + pOff p + 1 := by show z + off (4 * p + 3) = _; rw [o2]; omega
    rw [e1, e2]
    exact h1
  · rw [cell_T _ _ _ hp]
    have h1 := h _ (Or.inr (Or.inl rfl))
    have e2 : (gZ z c).1 (4 * p + 3) = z + pOff p + 1 := by show z + off (4 * p + 3) = _; rw [o2]; omega
    rw [e2]
    show H[z + pOff p + 1]? = some (vp_cell _ _)
    rw [vp_cell_q, arr_congr (f' := fun j => va_rf (some (z + pOff p + 1 + 1 + 2 * j))) (fun j hj => by
      show va_rf (some (z + off (4 * (16 * p + j)))) = _
      rw [(off_t p hp j (by omega) hj).1, show z + (pOff p + 2 + 2 * j) = z + pOff p + 1 + 1 + 2 * j by omega])]
    rw [show tlen p = tlen p - 1 + 1 by omega]
    exact h1
  · obtain ⟨u1, u2⟩ := off_t p hp i (by omega) hi
    have e1 : (gZ z c).1 (4 * (16 * p + i)) = z + pOff p + 1 + 1 + 2 * i := by show z + off _ = _; rw [u1]; omega
    have e2 : (gZ z c).1 (4 * (16 * p + i) + 1) = z + pOff p + 1 + 2 + 2 * i := by show z + off _ = _; rw [u2]; omega
    refine ⟨?_, ?_⟩
    · have h1 := h _ (Or.inr (Or.inr ⟨i, by omega, Or.inl rfl⟩))
      rw [cell_W, e1, e2]
      exact h1
    · have h1 := h _ (Or.inr (Or.inr ⟨i, by omega, Or.inr rfl⟩))
      rw [cell_D, e2, cap_t p hp i (by omega)]
      exact h1
theorem at_wT {D : va_G} {z w a r : Nat} {c : ClassId × ClassId × ClassId × ClassId} {H : Heap} (h1 : off (4 * w) = a) (h2 : off (4 * w + 1) = a + 1) (h3 : capW w = r) (h : hs D (wT (gZ z c) (z + a) (z + (a + 1)) r) H) : va_at D vwCl ((gZ z c).1 (4 * w), cellC (gZ z c) σ0 (4 * w)) H ∧ va_at D vwCl ((gZ z c).1 (4 * w + 1), cellC (gZ z c) σ0 (4 * w + 1)) H := by
  have e1 : (gZ z c).1 (4 * w) = z + a := by show z + off _ = _; rw [h1]
  have e2 : (gZ z c).1 (4 * w + 1) = z + (a + 1) := by show z + off _ = _; rw [h2]
  refine ⟨?_, ?_⟩
  · have h9 := h _ (Or.inl rfl)
    rw [cell_W, e1, e2]
    exact h9
  · have h9 := h _ (Or.inr rfl)
    rw [cell_D, e2, h3]
    exact h9
theorem gT_poly {g : mG} {z p : Nat} (hp : p < 20) : ∀ q, pT g (z + pOff p) (z + pOff p + 1) (tlen p - 1) (capP p) q → gT g z (z + 1) q := by
  intro q h
  rcases (show p = 0 ∨ p = 1 ∨ p = 2 ∨ p = 3 ∨ p = 4 ∨ p = 5 ∨ p = 6 ∨ p = 7 ∨ p = 8 ∨ p = 9 ∨ p = 10 ∨ p = 11 ∨ p = 12 ∨ p = 13 ∨ p = 14 ∨ p = 15 ∨ p = 16 ∨ p = 17 ∨ p = 18 ∨ p = 19 by omega) with rfl | rfl | rfl | rfl | rfl | rfl | rfl | rfl | rfl | rfl | rfl | rfl | rfl | rfl | rfl | rfl | rfl | rfl | rfl | rfl
  · exact (Or.inr (Or.inr (Or.inl h)))
  · exact (Or.inr (Or.inr (Or.inr (Or.inl h))))
  · exact (Or.inr (Or.inr (Or.inr (Or.inr (Or.inl h)))))
  · exact (Or.inr (Or.inr (Or.inr (Or.inr (Or.inr (Or.inl h))))))
  · exact (Or.inr (Or.inr (Or.inr (Or.inr (Or.inr (Or.inr (Or.inl h)))))))
  · exact (Or.inr (Or.inr (Or.inr (Or.inr (Or.inr (Or.inr (Or.inr (Or.inl h))))))))
  · exact (Or.inr (Or.inr (Or.inr (Or.inr (Or.inr (Or.inr (Or.inr (Or.inr (Or.inl h)))))))))
  · exact (Or.inr (Or.inr (Or.inr (Or.inr (Or.inr (Or.inr (Or.inr (Or.inr (Or.inr (Or.inl h))))))))))
  · exact (Or.inr (Or.inr (Or.inr (Or.inr (Or.inr (Or.inr (Or.inr (Or.inr (Or.inr (Or.inr (Or.inr (Or.inl (Or.inr (Or.inl h))))))))))))))
  · exact (Or.inr (Or.inr (Or.inr (Or.inr (Or.inr (Or.inr (Or.inr (Or.inr (Or.inr (Or.inr (Or.inr (Or.inl (Or.inr (Or.inr (Or.inl h)))))))))))))))
  · exact (Or.inr (Or.inr (Or.inr (Or.inr (Or.inr (Or.inr (Or.inr (Or.inr (Or.inr (Or.inr (Or.inr (Or.inr (Or.inr (Or.inr (Or.inr (Or.inr (Or.inr (Or.inl h))))))))))))))))))
  · exact (Or.inr (Or.inr (Or.inr (Or.inr (Or.inr (Or.inr (Or.inr (Or.inr (Or.inr (Or.inr (Or.inr (Or.inr (Or.inr (Or.inr (Or.inr (Or.inr (Or.inr (Or.inr (Or.inl h)))))))))))))))))))
  · exact (Or.inr (Or.inr (Or.inr (Or.inr (Or.inr (Or.inr (Or.inr (Or.inr (Or.inr (Or.inr (Or.inr (Or.inr (Or.inr (Or.inr (Or.inr (Or.inr (Or.inr (Or.inr (Or.inr (Or.inl h))))))))))))))))))))
  · exact (Or.inr (Or.inr (Or.inr (Or.inr (Or.inr (Or.inr (Or.inr (Or.inr (Or.inr (Or.inr (Or.inr (Or.inr (Or.inr (Or.inr (Or.inr (Or.inr (Or.inr (Or.inr (Or.inr (Or.inr (Or.inl h)))))))))))))))))))))
  · exact (Or.inr (Or.inr (Or.inr (Or.inr (Or.inr (Or.inr (Or.inr (Or.inr (Or.inr (Or.inr (Or.inr (Or.inr (Or.inr (Or.inr (Or.inr (Or.inr (Or.inr (Or.inr (Or.inr (Or.inr (Or.inr (Or.inl h))))))))))))))))))))))
  · exact (Or.inr (Or.inr (Or.inr (Or.inr (Or.inr (Or.inr (Or.inr (Or.inr (Or.inr (Or.inr (Or.inr (Or.inr (Or.inr (Or.inr (Or.inr (Or.inr (Or.inr (Or.inr (Or.inr (Or.inr (Or.inr (Or.inr (Or.inl h)))))))))))))))))))))))
  · exact (Or.inr (Or.inr (Or.inr (Or.inr (Or.inr (Or.inr (Or.inr (Or.inr (Or.inr (Or.inr (Or.inr (Or.inr (Or.inr (Or.inr (Or.inr (Or.inr (Or.inr (Or.inr (Or.inr (Or.inr (Or.inr (Or.inr (Or.inr (Or.inl h))))))))))))))))))))))))
  · exact (Or.inr (Or.inr (Or.inr (Or.inr (Or.inr (Or.inr (Or.inr (Or.inr (Or.inr (Or.inr (Or.inr (Or.inr (Or.inr (Or.inr (Or.inr (Or.inr (Or.inr (Or.inr (Or.inr (Or.inr (Or.inr (Or.inr (Or.inr (Or.inr (Or.inl h)))))))))))))))))))))))))
  · exact (Or.inr (Or.inr (Or.inr (Or.inr (Or.inr (Or.inr (Or.inr (Or.inr (Or.inr (Or.inr (Or.inr (Or.inr (Or.inr (Or.inr (Or.inr (Or.inr (Or.inr (Or.inr (Or.inr (Or.inr (Or.inr (Or.inr (Or.inr (Or.inr (Or.inr (Or.inl h))))))))))))))))))))))))))
  · exact (Or.inr (Or.inr (Or.inr (Or.inr (Or.inr (Or.inr (Or.inr (Or.inr (Or.inr (Or.inr (Or.inr (Or.inr (Or.inr (Or.inr (Or.inr (Or.inr (Or.inr (Or.inr (Or.inr (Or.inr (Or.inr (Or.inr (Or.inr (Or.inr (Or.inr (Or.inr h))))))))))))))))))))))))))
theorem up_tab {f : Nat → Option Nat} {z : Nat} {n : Nat} {F : Nat → Nat} (h : ∀ j, j < n → f j = some (z + F j)) : ∀ j, j < n → va_rf (some (z + F j)) = va_rf (f j) := fun j hj => by rw [h j hj]
theorem regs_f (z : Nat) : ∀ j, j < 8 → va_rf (some (z + off (4 * j + 2))) = va_rf ((va_up (va_up (va_up (va_up (va_up (va_up (va_up (va_up (fun _ => none) 0 (some (z + 1 + 1))) 1 (some (z + 1 + 21))) 2 (some (z + 1 + 41))) 3 (some (z + 1 + 61))) 4 (some (z + 1 + 81))) 5 (some (z + 1 + 101))) 6 (some (z + 1 + 121))) 7 (some (z + 1 + 141))) j) := by
  intro j hj
  rcases (show j = 0 ∨ j = 1 ∨ j = 2 ∨ j = 3 ∨ j = 4 ∨ j = 5 ∨ j = 6 ∨ j = 7 by omega) with rfl | rfl | rfl | rfl | rfl | rfl | rfl | rfl <;> rfl
theorem links_f (z : Nat) : ∀ j, j < 10 → va_rf (some (z + off (4 * (10 + j) + 2))) = va_rf ((va_up (va_up (va_up (va_up (va_up (va_up (va_up (va_up (va_up (va_up (fun _ => none) 0 (some (z + 1 + 162 + 58))) 1 (some (z + 1 + 162 + 78))) 2 (some (z + 1 + 162 + 98))) 3 (some (z + 1 + 162 + 116))) 4 (some (z + 1 + 162 + 132))) 5 (some (z + 1 + 162 + 146))) 6 (some (z + 1 + 162 + 158))) 7 (some (z + 1 + 162 + 168))) 8 (some (z + 1 + 162 + 176))) 9 (some (z + 1 + 162 + 182))) j) := by
  intro j hj
  rcases (show j = 0 ∨ j = 1 ∨ j = 2 ∨ j = 3 ∨ j = 4 ∨ j = 5 ∨ j = 6 ∨ j = 7 ∨ j = 8 ∨ j = 9 by omega) with rfl | rfl | rfl | rfl | rfl | rfl | rfl | rfl | rfl | rfl <;> rfl
set_option maxRecDepth 100000 in
set_option maxHeartbeats 4000000 in
theorem init_C {D : va_G} {z : Nat} {c : ClassId × ClassId × ClassId × ClassId} {H : Heap} (h : hs D (gT (gZ z c) z (z + 1)) H) : ∀ k, okC k → va_at D vwCl ((gZ z c).1 k, cellC (gZ z c) σ0 k) H := by
  have hp : ∀ p, p < 20 → _ := fun p hp => at_pT (c := c) hp (fun q hq => h q (gT_poly hp q hq))
  have hb : ∀ w, 320 ≤ w → w < 328 → va_at D vwCl ((gZ z c).1 (4 * w), cellC (gZ z c) σ0 (4 * w)) H ∧ va_at D vwCl ((gZ z c).1 (4 * w + 1), cellC (gZ z c) σ0 (4 * w + 1)) H := by
    intro w h1 h2
    rcases (show w = 320 ∨ w = 321 ∨ w = 322 ∨ w = 323 ∨ w = 324 ∨ w = 325 ∨ w = 326 ∨ w = 327 by omega) with rfl | rfl | rfl | rfl | rfl | rfl | rfl | rfl
    · exact at_wT (a := 204) (r := 300) (by decide +kernel) (by decide +kernel) (by decide +kernel) (fun q hq => h q (Or.inr (Or.inr (Or.inr (Or.inr (Or.inr (Or.inr (Or.inr (Or.inr (Or.inr (Or.inr (Or.inr (Or.inl (Or.inr (Or.inr (Or.inr (Or.inl hq)))))))))))))))))
    · exact at_wT (a := 206) (r := 300) (by decide +kernel) (by decide +kernel) (by decide +kernel) (fun q hq => h q (Or.inr (Or.inr (Or.inr (Or.inr (Or.inr (Or.inr (Or.inr (Or.inr (Or.inr (Or.inr (Or.inr (Or.inl (Or.inr (Or.inr (Or.inr (Or.inr (Or.inl hq))))))))))))))))))
    · exact at_wT (a := 208) (r := 300) (by decide +kernel) (by decide +kernel) (by decide +kernel) (fun q hq => h q (Or.inr (Or.inr (Or.inr (Or.inr (Or.inr (Or.inr (Or.inr (Or.inr (Or.inr (Or.inr (Or.inr (Or.inl (Or.inr (Or.inr (Or.inr (Or.inr (Or.inr (Or.inl hq)))))))))))))))))))
    · exact at_wT (a := 210) (r := 300) (by decide +kernel) (by decide +kernel) (by decide +kernel) (fun q hq => h q (Or.inr (Or.inr (Or.inr (Or.inr (Or.inr (Or.inr (Or.inr (Or.inr (Or.inr (Or.inr (Or.inr (Or.inl (Or.inr (Or.inr (Or.inr (Or.inr (Or.inr (Or.inr hq)))))))))))))))))))
    · exact at_wT (a := 213) (r := 100) (by decide +kernel) (by decide +kernel) (by decide +kernel) (fun q hq => h q (Or.inr (Or.inr (Or.inr (Or.inr (Or.inr (Or.inr (Or.inr (Or.inr (Or.inr (Or.inr (Or.inr (Or.inr (Or.inr (Or.inl hq)))))))))))))))
    · exact at_wT (a := 215) (r := 100) (by decide +kernel) (by decide +kernel) (by decide +kernel) (fun q hq => h q (Or.inr (Or.inr (Or.inr (Or.inr (Or.inr (Or.inr (Or.inr (Or.inr (Or.inr (Or.inr (Or.inr (Or.inr (Or.inr (Or.inr (Or.inl hq))))))))))))))))
    · exact at_wT (a := 217) (r := 300) (by decide +kernel) (by decide +kernel) (by decide +kernel) (fun q hq => h q (Or.inr (Or.inr (Or.inr (Or.inr (Or.inr (Or.inr (Or.inr (Or.inr (Or.inr (Or.inr (Or.inr (Or.inr (Or.inr (Or.inr (Or.inr (Or.inl hq)))))))))))))))))
    · exact at_wT (a := 219) (r := 300) (by decide +kernel) (by decide +kernel) (by decide +kernel) (fun q hq => h q (Or.inr (Or.inr (Or.inr (Or.inr (Or.inr (Or.inr (Or.inr (Or.inr (Or.inr (Or.inr (Or.inr (Or.inr (Or.inr (Or.inr (Or.inr (Or.inr (Or.inl hq))))))))))))))))))
  have hW : ∀ w, okW w → va_at D vwCl ((gZ z c).1 (4 * w), cellC (gZ z c) σ0 (4 * w)) H ∧ va_at D vwCl ((gZ z c).1 (4 * w + 1), cellC (gZ z c) σ0 (4 * w + 1)) H := by
    intro w hw
    by_cases h3 : w < 320
    · have h4 := hw.2 h3
      have e : w = 16 * (w / 16) + w % 16 := by omega
      have h5 := (hp (w / 16) (by omega)).2.2 (w % 16) h4
      rw [← e] at h5
      exact h5
    · exact hb w (by omega) hw.1
  rintro k (⟨h1, h2⟩ | ⟨h1, h2⟩ | ⟨h1, h2⟩ | ⟨h1, h2⟩ | rfl | rfl | rfl | rfl | rfl)
  · have e : k = 4 * (k / 4) := by omega
    rw [e]
    exact (hW _ h2).1
  · have e : k = 4 * (k / 4) + 1 := by omega
    rw [e]
    exact (hW _ h2).2
  · have e : k = 4 * (k / 4) + 2 := by omega
    rw [e]
    exact (hp _ h2).1
  · have e : k = 4 * (k / 4) + 3 := by omega
    rw [e]
    exact (hp _ h2).2.1
  · exact h _ (Or.inr (Or.inr (Or.inr (Or.inr (Or.inr (Or.inr (Or.inr (Or.inr (Or.inr (Or.inr (Or.inr (Or.inl (Or.inl rfl)))))))))))))
  · exact h _ (Or.inr (Or.inr (Or.inr (Or.inr (Or.inr (Or.inr (Or.inr (Or.inr (Or.inr (Or.inr (Or.inl rfl)))))))))))
  · exact h _ (Or.inl rfl)
  · have h9 := h _ (Or.inr (Or.inr (Or.inr (Or.inr (Or.inr (Or.inr (Or.inr (Or.inr (Or.inr (Or.inr (Or.inr (Or.inr (Or.inl rfl)))))))))))))
    show H[z + 1 + 162 + 49]? = some (arrV c.2.2.2 10 (fun j => va_rf (some (z + off (4 * (10 + j) + 2)))))
    rw [arr_congr (links_f z)]
    exact h9
  · have h9 := h _ (Or.inr (Or.inl rfl))
    show H[z + 1]? = some (arrV c.2.2.2 8 (fun j => va_rf (some (z + off (4 * j + 2)))))
    rw [arr_congr (regs_f z)]
    exact h9
theorem degs_f : ∀ j, j < 24 → Value.int (-1 : Int32) = Value.int ((upd (upd (upd (upd (upd (upd (upd (upd (upd (upd (upd (upd (upd (upd (upd (upd (upd (upd (upd (upd (upd (upd (upd (upd (fun _ => 0) 0 (-1 : Int32)) 1 (-1 : Int32)) 2 (-1 : Int32)) 3 (-1 : Int32)) 4 (-1 : Int32)) 5 (-1 : Int32)) 6 (-1 : Int32)) 7 (-1 : Int32)) 8 (-1 : Int32)) 9 (-1 : Int32)) 10 (-1 : Int32)) 11 (-1 : Int32)) 12 (-1 : Int32)) 13 (-1 : Int32)) 14 (-1 : Int32)) 15 (-1 : Int32)) 16 (-1 : Int32)) 17 (-1 : Int32)) 18 (-1 : Int32)) 19 (-1 : Int32)) 20 (-1 : Int32)) 21 (-1 : Int32)) 22 (-1 : Int32)) 23 (-1 : Int32)) j) := by
  intro j hj
  rcases (show j = 0 ∨ j = 1 ∨ j = 2 ∨ j = 3 ∨ j = 4 ∨ j = 5 ∨ j = 6 ∨ j = 7 ∨ j = 8 ∨ j = 9 ∨ j = 10 ∨ j = 11 ∨ j = 12 ∨ j = 13 ∨ j = 14 ∨ j = 15 ∨ j = 16 ∨ j = 17 ∨ j = 18 ∨ j = 19 ∨ j = 20 ∨ j = 21 ∨ j = 22 ∨ j = 23 by omega) with rfl | rfl | rfl | rfl | rfl | rfl | rfl | rfl | rfl | rfl | rfl | rfl | rfl | rfl | rfl | rfl | rfl | rfl | rfl | rfl | rfl | rfl | rfl | rfl <;> rfl
set_option maxRecDepth 100000 in
theorem init_R {D : va_G} {z : Nat} {c : ClassId × ClassId × ClassId × ClassId} {H : Heap} (h : hs D (mT (gZ z c) (z + 349) (z + 350)) H) : ∀ k, okR k → va_at D vwCl ((gZ z c).1 k, rcell (gZ z c) ρ0 k) H := by
  rintro k ⟨h1, h2⟩
  rcases (show k = 5000 ∨ k = 5001 ∨ k = 5002 ∨ k = 5003 ∨ k = 5004 ∨ k = 5005 by omega) with rfl | rfl | rfl | rfl | rfl | rfl
  · exact h _ (Or.inl rfl)
  · exact h _ (Or.inr (Or.inl rfl))
  · exact h _ (Or.inr (Or.inr (Or.inl rfl)))
  · exact h _ (Or.inr (Or.inr (Or.inr (Or.inl rfl))))
  · have h9 := h _ (Or.inr (Or.inr (Or.inr (Or.inr (Or.inl rfl)))))
    show H[z + 350 + 3]? = some (arrV c.1 24 (fun j => Value.int (-1 : Int32)))
    rw [arr_congr degs_f]
    exact h9
  · exact h _ (Or.inr (Or.inr (Or.inr (Or.inr (Or.inr rfl)))))
/-- a world out of its cells -/
theorem wd_of {D : va_G} {z : Nat} {c : ClassId × ClassId × ClassId × ClassId} {H : Heap} {ok : Nat → Prop} {cell : Nat → va_E} (N : Nat) (hN : ∀ k, ok k → k < N) (h : ∀ k, ok k → va_at D vwCl ((gZ z c).1 k, cell k) H) : wd D (fun q => ∃ k, ok k ∧ q = (gZ z c).1 k) (fun q => ∃ k, ok k ∧ q = ((gZ z c).1 k, cell k)) H := by
  let dec : Nat → Bool := fun k => @decide (ok k) (Classical.propDecidable _)
  let cs : List Nat := (List.range N).filter dec
  have hcs : ∀ k, k ∈ cs ↔ ok k := by
    intro k
    show k ∈ (List.range N).filter dec ↔ _
    rw [List.mem_filter, List.mem_range]
    constructor
    · rintro ⟨-, h1⟩
      exact @of_decide_eq_true _ (Classical.propDecidable _) h1
    · intro h1
      exact ⟨hN k h1, @decide_eq_true _ (Classical.propDecidable _) h1⟩
  have hnd : cs.Nodup := List.Pairwise.filter _ List.nodup_range
  have hget : ∀ (i : Nat) (q : Nat × va_E), (cs.map (fun k => ((gZ z c).1 k, cell k)))[i]? = some q → ∃ k, cs[i]? = some k ∧ q = ((gZ z c).1 k, cell k) := by
    intro i q hq
    rw [List.getElem?_map] at hq
    cases hk : cs[i]? with
    | none => rw [hk] at hq; cases hq
    | some k => rw [hk] at hq; exact ⟨k, rfl, (Option.some.inj hq).symm⟩
  refine ⟨cs.map (fun k => ((gZ z c).1 k, cell k)), ?_, ⟨?_, ?_⟩, ?_⟩
  · intro i q hq
    obtain ⟨k, hk, rfl⟩ := hget i q hq
    exact h k ((hcs k).mp (List.mem_of_getElem? hk))
  · intro i j p q hp hq hpq
    obtain ⟨k, hk, rfl⟩ := hget i p hp
    obtain ⟨k', hk', rfl⟩ := hget j q hq
    have e : k = k' := gZ_inj z c _ _ hpq
    subst e
    have hlt : i < cs.length := (List.getElem?_eq_some_iff.mp hk).1
    exact (List.getElem?_inj hlt hnd).mp (hk.trans hk'.symm)
  · intro i q hq
    obtain ⟨k, hk, rfl⟩ := hget i q hq
    exact ⟨k, (hcs k).mp (List.mem_of_getElem? hk), rfl⟩
  · rintro q ⟨k, hk, rfl⟩
    obtain ⟨i, hi⟩ := List.getElem?_of_mem ((hcs k).mpr hk)
    exact ⟨i, by rw [List.getElem?_map, hi]; rfl⟩
