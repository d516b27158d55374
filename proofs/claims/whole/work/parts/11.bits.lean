/-! bits of a number (the first rows begun from laws/BITS.to-paste) -/
def bt (x : Int32) (i : Nat) : Bool := x.toBitVec.getLsbD i
theorem b_ext {x y : Int32} (h : ∀ i, i < 32 → bt x i = bt y i) : x = y := Int32.toBitVec_inj.mp (BitVec.eq_of_getLsbD_eq (fun i hi => h i hi))
theorem b_or (x y : Int32) (i : Nat) : bt (x ||| y) i = (bt x i || bt y i) := by unfold bt; rw [Int32.toBitVec_or, BitVec.getLsbD_or]
theorem b_and (x y : Int32) (i : Nat) : bt (x &&& y) i = (bt x i && bt y i) := by unfold bt; rw [Int32.toBitVec_and, BitVec.getLsbD_and]
theorem b_xor (x y : Int32) (i : Nat) : bt (x ^^^ y) i = (bt x i ^^ bt y i) := by unfold bt; rw [Int32.toBitVec_xor, BitVec.getLsbD_xor]
theorem b_big {x : Int32} {i : Nat} (h : 32 ≤ i) : bt x i = false := BitVec.getLsbD_of_ge _ _ h
theorem b_m1 : ∀ i, i < 32 → bt (-1) i = true := by decide +kernel
theorem b_0 (i : Nat) : bt 0 i = false := BitVec.getLsbD_zero
theorem s_l : ∀ n, n < 32 → ((nI n &&& 31).toBitVec.smod 32).toNat = n := by decide +kernel
theorem b_shl (n : Nat) (hn : n < 32) (x : Int32) {i : Nat} (hi : i < 32) : bt (x <<< (nI n &&& 31)) i = (decide (n ≤ i) && bt x (i - n)) := by
  unfold bt
  rw [Int32.toBitVec_shiftLeft]
  show (x.toBitVec <<< ((nI n &&& 31).toBitVec.smod 32).toNat).getLsbD i = _
  rw [s_l n hn, BitVec.getLsbD_shiftLeft]
  rcases Nat.lt_or_ge i n with h | h
  · simp [h, Nat.not_le.mpr h]
  · simp [hi, h, Nat.not_lt.mpr h]
theorem b_sshr (n : Nat) (hn : n < 32) (x : Int32) {i : Nat} (hi : i < 32) : bt (x >>> (nI n &&& 31)) i = if n + i < 32 then bt x (n + i) else bt x 31 := by
  unfold bt
  rw [Int32.toBitVec_shiftRight]
  show (x.toBitVec.sshiftRight ((nI n &&& 31).toBitVec.smod 32).toNat).getLsbD i = _
  rw [s_l n hn, BitVec.getLsbD_sshiftRight, BitVec.msb_eq_getLsbD_last]
  simp [hi]
def bI (b : Bool) : Int32 := if b = true then 1 else 0
theorem bI_01 (b : Bool) : bI b = 0 ∨ bI b = 1 := by cases b <;> simp [bI]
theorem bI_0 {b : Bool} : bI b = 0 ↔ b = false := by cases b <;> simp [bI]
theorem bI_1 {b : Bool} : bI b = 1 ↔ b = true := by cases b <;> simp [bI]
theorem bt_1 : ∀ i, i < 32 → bt 1 i = decide (i = 0) := by decide +kernel
/-- the set of one item -/
def bit (i : Nat) : Int32 := (1 : Int32) <<< (nI i &&& 31)
theorem bt_bit {i : Nat} (hi : i < 32) (j : Nat) : bt (bit i) j = decide (j = i) := by
  rcases Nat.lt_or_ge j 32 with hj | hj
  · unfold bit
    rw [b_shl i hi 1 hj]
    rcases Nat.lt_or_ge j i with h | h
    · simp [Nat.not_le.mpr h]; omega
    · rw [bt_1 (j - i) (by omega)]
      simp [h]; omega
  · rw [b_big hj]
    simp; omega
theorem b_has {x : Int32} {i : Nat} (hi : i < 32) : (x >>> (nI i &&& 31)) &&& 1 = bI (bt x i) := by
  apply b_ext
  intro j hj
  rw [b_and, bt_1 j hj, b_sshr i hi x hj]
  by_cases h0 : j = 0
  · subst h0
    simp only [Nat.add_zero, hi, if_true, decide_true, Bool.and_true]
    cases bt x i <;> simp [bI] <;> decide
  · simp only [h0, decide_false, Bool.and_false]
    cases bt x i
    · simp [bI, b_0]
    · simp [bI]; rw [bt_1 j hj]; simp [h0]
theorem b_not {x : Int32} {j : Nat} (hj : j < 32) : bt (x ^^^ -1) j = !bt x j := by
  rw [b_xor, b_m1 j hj]
  simp
theorem b_drop {x : Int32} {i j : Nat} (hi : i < 32) : bt (x &&& (bit i ^^^ -1)) j = (bt x j && !decide (j = i)) := by
  rcases Nat.lt_or_ge j 32 with hj | hj
  · rw [b_and, b_not hj, bt_bit hi]
  · rw [b_big hj, b_big hj]; rfl
theorem b_put {x : Int32} {i j : Nat} (hi : i < 32) : bt (x ||| bit i) j = (bt x j || decide (j = i)) := by
  rw [b_or, bt_bit hi]
theorem b_ne0 {x : Int32} : x ≠ 0 ↔ ∃ i, i < 32 ∧ bt x i = true := by
  constructor
  · intro h
    refine Classical.byContradiction fun q => h (b_ext fun i hi => ?_)
    rw [b_0]
    cases hb : bt x i with
    | false => rfl
    | true => exact absurd ⟨i, hi, hb⟩ q
  · rintro ⟨i, _, hb⟩ rfl
    rw [b_0] at hb
    cases hb
/-- isWithin -/
theorem c_isWithin {G : GC} {B n : Nat} {h : HT} (x a b : Int32) : CtJ G B M8_isWithin [.int x, .int a, .int b] n h 0 0 (eqP (some (.int (bI (decide (a ≤ x ∧ x ≤ b))))) n h) := by
  unfold CtJ
  repeat (first | refine jj_inc rfl rfl ?_ | refine jj_s rfl rfl ?_)
  refine jj_icmp_lt 14 rfl rfl (fun c1 => ?_) (fun c1 => ?_)
  · repeat (first | refine jj_inc rfl rfl ?_ | refine jj_s rfl rfl ?_)
    exact jj_zret rfl rfl (Or.inl rfl) ⟨by simp [bI, Int32.not_le.mpr c1], rfl, rfl⟩
  · repeat (first | refine jj_inc rfl rfl ?_ | refine jj_s rfl rfl ?_)
    refine jj_icmp_gt 14 rfl rfl (fun c2 => ?_) (fun c2 => ?_)
    · repeat (first | refine jj_inc rfl rfl ?_ | refine jj_s rfl rfl ?_)
      exact jj_zret rfl rfl (Or.inl rfl) ⟨by simp [bI, Int32.not_le.mpr c2], rfl, rfl⟩
    · repeat (first | refine jj_inc rfl rfl ?_ | refine jj_s rfl rfl ?_)
      exact jj_zret rfl rfl (Or.inr rfl) ⟨by simp [bI, Int32.not_lt.mp c1, Int32.not_lt.mp c2], rfl, rfl⟩
/-- Bits.has -/
theorem c_has {G : GC} {B n : Nat} {h : HT} {x : Int32} {i : Nat} (hi : i < 32) : CtJ G B M0_has [.int x, .int (nI i)] n h 0 0 (eqP (some (.int (bI (bt x i)))) n h) := by
  unfold CtJ
  repeat (first | refine jj_inc rfl rfl ?_ | refine jj_s rfl rfl ?_)
  refine jj_if_eq 12 rfl rfl (fun c1 => ?_) (fun c1 => ?_)
  · have c1 : (x >>> (nI i &&& 31)) &&& 1 = 0 := c1
    rw [b_has hi, bI_0] at c1
    repeat (first | refine jj_inc rfl rfl ?_ | refine jj_s rfl rfl ?_)
    exact jj_zret rfl rfl (Or.inl rfl) ⟨by rw [c1]; rfl, rfl, rfl⟩
  · have c1 : ¬ (x >>> (nI i &&& 31)) &&& 1 = 0 := c1
    rw [b_has hi, bI_0, Bool.not_eq_false] at c1
    repeat (first | refine jj_inc rfl rfl ?_ | refine jj_s rfl rfl ?_)
    exact jj_zret rfl rfl (Or.inr rfl) ⟨by rw [c1]; rfl, rfl, rfl⟩
