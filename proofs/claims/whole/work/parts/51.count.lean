/-! bitCount counts -/
def vl (P : Nat → Bool) : Nat → Nat
  | 0 => 0
  | k + 1 => if P k = true then vl P k + 2 ^ k else vl P k
theorem vl_lt (P : Nat → Bool) (k : Nat) : vl P k < 2 ^ k := by
  induction k with
  | zero => exact Nat.one_pos
  | succ k ih =>
    unfold vl
    rw [Nat.pow_succ]
    split <;> omega
theorem p20 {k : Nat} (hk : k ≤ 20) : 2 ^ k ≤ 1048576 := Nat.pow_le_pow_right (n := 2) (by decide) hk
theorem vl_msk (P : Nat → Bool) {k : Nat} (hk : k ≤ 20) : msk P k = nI (vl P k) := by
  induction k with
  | zero => rfl
  | succ k ih =>
    have e := ih (by omega)
    have h1 := vl_lt P k
    have h2 := p20 (show k ≤ 20 by omega)
    unfold msk vl
    split
    next hp =>
      rw [e, ← Nat.or_two_pow_eq_add_of_lt h1]
      have h3 : vl P k ||| 2 ^ k < 2 ^ 31 := Nat.or_lt_two_pow (by omega) (by omega)
      refine b_ext fun j hj => ?_
      rw [b_put (by omega), bt_nI (by omega), bt_nI (by omega), Nat.testBit_or, Nat.testBit_two_pow]
      by_cases e : k = j
      · subst e; simp
      · have : ¬ j = k := fun z => e z.symm
        simp [e, this]
    next => exact e
def pc1 (x : Nat) : Nat := Nat.sub x (Nat.land (Nat.shiftRight x 1) 1431655765)
def pc2 (x : Nat) : Nat := Nat.add (Nat.land x 858993459) (Nat.land (Nat.shiftRight x 2) 858993459)
def pc3 (x : Nat) : Nat := Nat.land (Nat.add x (Nat.shiftRight x 4)) 252645135
def pc4 (x : Nat) : Nat := Nat.add x (Nat.shiftRight x 8)
def pc5 (x : Nat) : Nat := Nat.land (Nat.add x (Nat.shiftRight x 16)) 63
def pcn (x : Nat) : Nat := pc5 (pc4 (pc3 (pc2 (pc1 x))))
theorem nI_and {a b : Nat} (ha : a < 2 ^ 32) (hb : b < 2 ^ 32) : nI a &&& nI b = nI (Nat.land a b) := by
  apply Int32.toBitVec_inj.mp
  rw [Int32.toBitVec_and]
  show BitVec.ofNat 32 a &&& BitVec.ofNat 32 b = BitVec.ofNat 32 (a &&& b)
  apply BitVec.eq_of_toNat_eq
  rw [BitVec.toNat_and, BitVec.toNat_ofNat, BitVec.toNat_ofNat, BitVec.toNat_ofNat, Nat.mod_eq_of_lt ha, Nat.mod_eq_of_lt hb, Nat.mod_eq_of_lt (Nat.and_lt_two_pow _ hb)]
theorem us_nI {a : Nat} (ha : a < 2 ^ 32) (k : Int32) (j : Nat) (hk : ((k.toUInt32 &&& Int32.toUInt32 31).toBitVec % 32).toNat = j) : us (nI a) k = nI (Nat.shiftRight a j) := by
  apply Int32.toBitVec_inj.mp
  show BitVec.ofNat 32 a >>> ((k.toUInt32 &&& Int32.toUInt32 31).toBitVec % 32) = BitVec.ofNat 32 (a >>> j)
  rw [BitVec.ushiftRight_eq', hk]
  apply BitVec.eq_of_toNat_eq
  rw [BitVec.toNat_ushiftRight, BitVec.toNat_ofNat, BitVec.toNat_ofNat, Nat.mod_eq_of_lt ha, Nat.mod_eq_of_lt (Nat.lt_of_le_of_lt (Nat.shiftRight_le a j) ha)]
theorem land_le {a b : Nat} : Nat.land a b ≤ a := Nat.and_le_left
theorem land_le' {a b : Nat} : Nat.land a b ≤ b := Nat.and_le_right
theorem shr_le (a j : Nat) : Nat.shiftRight a j ≤ a := Nat.shiftRight_le a j
theorem bcF_pcn {x : Nat} (hx : x < 1048576) : bcF (nI x) = nI (pcn x) := by
  have s1 := shr_le x 1
  have l1 : Nat.land (Nat.shiftRight x 1) 1431655765 ≤ Nat.shiftRight x 1 := land_le
  have e1 : bc1 (nI x) = nI (pc1 x) := by
    unfold bc1 pc1
    rw [us_nI (by omega) 1 1 (by decide), show (1431655765 : Int32) = nI 1431655765 from rfl, nI_and (by omega) (by omega), pk_sub (by omega)]
    rfl
  have b1 : pc1 x ≤ x := Nat.sub_le _ _
  have l2 : Nat.land (pc1 x) 858993459 ≤ pc1 x := land_le
  have s2 := shr_le (pc1 x) 2
  have l2' : Nat.land (Nat.shiftRight (pc1 x) 2) 858993459 ≤ Nat.shiftRight (pc1 x) 2 := land_le
  have e2 : bc2 (nI (pc1 x)) = nI (pc2 (pc1 x)) := by
    unfold bc2
    rw [us_nI (by omega) 2 2 (by decide), show (858993459 : Int32) = nI 858993459 from rfl, nI_and (by omega) (by omega), nI_and (by omega) (by omega), nI_add]
    rfl
  have b2 : pc2 (pc1 x) ≤ 2 * x := by
    show Nat.land (pc1 x) 858993459 + Nat.land (Nat.shiftRight (pc1 x) 2) 858993459 ≤ 2 * x
    omega
  have s3 := shr_le (pc2 (pc1 x)) 4
  have e3 : bc3 (nI (pc2 (pc1 x))) = nI (pc3 (pc2 (pc1 x))) := by
    unfold bc3
    rw [us_nI (by omega) 4 4 (by decide), nI_add, show (252645135 : Int32) = nI 252645135 from rfl, nI_and (by omega) (by omega)]
    rfl
  have b3 : pc3 (pc2 (pc1 x)) ≤ 4 * x := by
    have : pc3 (pc2 (pc1 x)) ≤ pc2 (pc1 x) + Nat.shiftRight (pc2 (pc1 x)) 4 := land_le
    omega
  have s4 := shr_le (pc3 (pc2 (pc1 x))) 8
  have e4 : bc4 (nI (pc3 (pc2 (pc1 x)))) = nI (pc4 (pc3 (pc2 (pc1 x)))) := by
    unfold bc4
    rw [us_nI (by omega) 8 8 (by decide), nI_add]
    rfl
  have b4 : pc4 (pc3 (pc2 (pc1 x))) ≤ 8 * x := by
    show pc3 (pc2 (pc1 x)) + Nat.shiftRight (pc3 (pc2 (pc1 x))) 8 ≤ 8 * x
    omega
  have s5 := shr_le (pc4 (pc3 (pc2 (pc1 x)))) 16
  unfold bcF bc5
  rw [e1, e2, e3, e4, us_nI (by omega) 16 16 (by decide), nI_add, show (63 : Int32) = nI 63 from rfl, nI_and (by omega) (by omega)]
  rfl
def chk (d : Nat) : Nat → Nat → Bool := Nat.rec (fun x c => Nat.beq (pcn x) c) (fun d ih x c => and (ih x c) (ih (Nat.add x (Nat.pow 2 d)) (Nat.add c 1))) d
theorem chk_use (P : Nat → Bool) (d : Nat) : ∀ x c, chk d x c = true → pcn (x + vl P d) = c + cn P d := by
  induction d with
  | zero => intro x c h; exact Nat.eq_of_beq_eq_true h
  | succ d ih =>
    intro x c h
    have h : (chk d x c && chk d (x + 2 ^ d) (c + 1)) = true := h
    rw [Bool.and_eq_true] at h
    unfold vl cn
    by_cases hp : P d = true
    · rw [if_pos hp, if_pos hp]
      have := ih (x + 2 ^ d) (c + 1) h.2
      rw [show x + (vl P d + 2 ^ d) = x + 2 ^ d + vl P d by omega, this]
      omega
    · rw [if_neg hp, if_neg hp]
      exact ih x c h.1
theorem chk_0 : chk 17 (0) (0) = true := by decide +kernel
theorem chk_1 : chk 17 (0 + 2 ^ 17) (0 + 1) = true := by decide +kernel
theorem chk_2 : chk 17 (0 + 2 ^ 18) (0 + 1) = true := by decide +kernel
theorem chk_3 : chk 17 (0 + 2 ^ 18 + 2 ^ 17) (0 + 1 + 1) = true := by decide +kernel
theorem chk_4 : chk 17 (0 + 2 ^ 19) (0 + 1) = true := by decide +kernel
theorem chk_5 : chk 17 (0 + 2 ^ 19 + 2 ^ 17) (0 + 1 + 1) = true := by decide +kernel
theorem chk_6 : chk 17 (0 + 2 ^ 19 + 2 ^ 18) (0 + 1 + 1) = true := by decide +kernel
theorem chk_7 : chk 17 (0 + 2 ^ 19 + 2 ^ 18 + 2 ^ 17) (0 + 1 + 1 + 1) = true := by decide +kernel
theorem chk_s {d x c : Nat} (a : chk d x c = true) (b : chk d (x + 2 ^ d) (c + 1) = true) : chk (d + 1) x c = true := by
  show (chk d x c && chk d (x + 2 ^ d) (c + 1)) = true
  rw [a, b]; rfl
theorem chk_20 : chk 20 0 0 = true := chk_s (d := 19) (chk_s (d := 18) (chk_s (d := 17) chk_0 chk_1) (chk_s (d := 17) chk_2 chk_3)) (chk_s (d := 18) (chk_s (d := 17) chk_4 chk_5) (chk_s (d := 17) chk_6 chk_7))
/-- the set's number -/
theorem bcF_msk (P : Nat → Bool) : bcF (msk P 20) = nI (cn P 20) := by
  rw [vl_msk P (Nat.le_refl _), bcF_pcn (by have := vl_lt P 20; omega)]
  have := chk_use P 20 0 0 chk_20
  rw [Nat.zero_add, Nat.zero_add] at this
  rw [this]
theorem bt_self {x : Int32} (h : ∀ i, bt x i = true → i < 20) : x = msk (bt x) 20 := b_ext fun i _ => by
  rw [bt_msk _ (by omega)]
  cases hb : bt x i with
  | false => simp
  | true => rw [decide_eq_true (h i hb)]; rfl
theorem bcF_cn {x : Int32} (h : ∀ i, bt x i = true → i < 20) : bcF x = nI (cn (bt x) 20) := by
  have e := bcF_msk (bt x)
  rw [← bt_self h] at e
  exact e
theorem cn_cut {P : Nat → Bool} {N M : Nat} (hN : N ≤ M) (h : ∀ i, i < M → N ≤ i → P i = false) : cn P M = cn P N := by
  induction M with
  | zero => rw [show N = 0 by omega]
  | succ M ih =>
    by_cases e : N = M + 1
    · rw [e]
    · rw [cn, h M (by omega) (by omega), if_neg (by decide), Nat.add_zero]
      exact ih (by omega) (fun i hi => h i (by omega))
theorem bcF_N {x : Int32} {N : Nat} (hN : N ≤ 20) (h : ∀ i, bt x i = true → i < N) : bcF x = nI (cn (bt x) N) := by
  rw [bcF_cn (fun i hi => by have := h i hi; omega), cn_cut hN (fun i _ hi => by
    cases hb : bt x i with
    | false => rfl
    | true => have := h i hb; omega)]
