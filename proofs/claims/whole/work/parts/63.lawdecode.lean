def chkR (b : ByteArray) (tb : List (Option Instr)) (a n : Nat) : Bool := (List.range n).all fun k => match lk tb (a + k) with
  | none => true
  | some i => match decode b (a + k) with
    | .ok (j, len) => decide (j = i) && (ilen i == 0 || len == ilen i)
    | .error _ => false
theorem TbOk_R {y : MT} {pc a n : Nat} {i : Instr} (h : chkR (M_by y) (M_tb y) a n = true) (h1 : a ≤ pc) (h2 : pc < a + n) (hi : lk (M_tb y) pc = some i) : ∃ len, decode (M_by y) pc = .ok (i, len) ∧ (ilen i = 0 ∨ len = ilen i) := by
  have h1 := List.all_eq_true.mp h (pc - a) (List.mem_range.mpr (by omega))
  rw [show a + (pc - a) = pc by omega, hi] at h1
  dsimp only at h1
  split at h1
  next j len hd =>
    simp only [Bool.and_eq_true, decide_eq_true_eq, Bool.or_eq_true, beq_iff_eq] at h1
    obtain ⟨rfl, h3⟩ := h1
    exact ⟨len, hd, h3⟩
  next => cases h1
theorem tl0 : chkR (M_by M_law) (M_tb M_law) 0 60 = true := by decide +kernel
theorem tl1 : chkR (M_by M_law) (M_tb M_law) 60 60 = true := by decide +kernel
theorem tl2 : chkR (M_by M_law) (M_tb M_law) 120 60 = true := by decide +kernel
theorem tl3 : chkR (M_by M_law) (M_tb M_law) 180 60 = true := by decide +kernel
theorem tl4 : chkR (M_by M_law) (M_tb M_law) 240 60 = true := by decide +kernel
theorem tl5 : chkR (M_by M_law) (M_tb M_law) 300 60 = true := by decide +kernel
theorem tl6 : chkR (M_by M_law) (M_tb M_law) 360 60 = true := by decide +kernel
theorem tl7 : chkR (M_by M_law) (M_tb M_law) 420 60 = true := by decide +kernel
theorem tl8 : chkR (M_by M_law) (M_tb M_law) 480 60 = true := by decide +kernel
theorem tl9 : chkR (M_by M_law) (M_tb M_law) 540 60 = true := by decide +kernel
theorem tl10 : chkR (M_by M_law) (M_tb M_law) 600 60 = true := by decide +kernel
theorem tl11 : chkR (M_by M_law) (M_tb M_law) 660 60 = true := by decide +kernel
theorem tl12 : chkR (M_by M_law) (M_tb M_law) 720 60 = true := by decide +kernel
theorem tl13 : chkR (M_by M_law) (M_tb M_law) 780 60 = true := by decide +kernel
theorem tl14 : chkR (M_by M_law) (M_tb M_law) 840 60 = true := by decide +kernel
theorem tl15 : chkR (M_by M_law) (M_tb M_law) 900 60 = true := by decide +kernel
theorem tl16 : chkR (M_by M_law) (M_tb M_law) 960 60 = true := by decide +kernel
theorem tl17 : chkR (M_by M_law) (M_tb M_law) 1020 60 = true := by decide +kernel
theorem tl18 : chkR (M_by M_law) (M_tb M_law) 1080 60 = true := by decide +kernel
theorem tl19 : chkR (M_by M_law) (M_tb M_law) 1140 60 = true := by decide +kernel
theorem tl20 : chkR (M_by M_law) (M_tb M_law) 1200 37 = true := by decide +kernel
theorem tb_law_len : (M_tb M_law).length = 1237 := by decide +kernel
theorem tok_law : TbOk M_law := by
  intro pc i hi
  have hl := lk_get _ _ _ hi
  rw [tb_law_len] at hl
  rcases Nat.lt_or_ge pc 60 with q0 | q0
  · exact TbOk_R tl0 (by omega) (by omega) hi
  rcases Nat.lt_or_ge pc 120 with q1 | q1
  · exact TbOk_R tl1 (by omega) (by omega) hi
  rcases Nat.lt_or_ge pc 180 with q2 | q2
  · exact TbOk_R tl2 (by omega) (by omega) hi
  rcases Nat.lt_or_ge pc 240 with q3 | q3
  · exact TbOk_R tl3 (by omega) (by omega) hi
  rcases Nat.lt_or_ge pc 300 with q4 | q4
  · exact TbOk_R tl4 (by omega) (by omega) hi
  rcases Nat.lt_or_ge pc 360 with q5 | q5
  · exact TbOk_R tl5 (by omega) (by omega) hi
  rcases Nat.lt_or_ge pc 420 with q6 | q6
  · exact TbOk_R tl6 (by omega) (by omega) hi
  rcases Nat.lt_or_ge pc 480 with q7 | q7
  · exact TbOk_R tl7 (by omega) (by omega) hi
  rcases Nat.lt_or_ge pc 540 with q8 | q8
  · exact TbOk_R tl8 (by omega) (by omega) hi
  rcases Nat.lt_or_ge pc 600 with q9 | q9
  · exact TbOk_R tl9 (by omega) (by omega) hi
  rcases Nat.lt_or_ge pc 660 with q10 | q10
  · exact TbOk_R tl10 (by omega) (by omega) hi
  rcases Nat.lt_or_ge pc 720 with q11 | q11
  · exact TbOk_R tl11 (by omega) (by omega) hi
  rcases Nat.lt_or_ge pc 780 with q12 | q12
  · exact TbOk_R tl12 (by omega) (by omega) hi
  rcases Nat.lt_or_ge pc 840 with q13 | q13
  · exact TbOk_R tl13 (by omega) (by omega) hi
  rcases Nat.lt_or_ge pc 900 with q14 | q14
  · exact TbOk_R tl14 (by omega) (by omega) hi
  rcases Nat.lt_or_ge pc 960 with q15 | q15
  · exact TbOk_R tl15 (by omega) (by omega) hi
  rcases Nat.lt_or_ge pc 1020 with q16 | q16
  · exact TbOk_R tl16 (by omega) (by omega) hi
  rcases Nat.lt_or_ge pc 1080 with q17 | q17
  · exact TbOk_R tl17 (by omega) (by omega) hi
  rcases Nat.lt_or_ge pc 1140 with q18 | q18
  · exact TbOk_R tl18 (by omega) (by omega) hi
  rcases Nat.lt_or_ge pc 1200 with q19 | q19
  · exact TbOk_R tl19 (by omega) (by omega) hi
  exact TbOk_R tl20 (by omega) (by omega) hi
