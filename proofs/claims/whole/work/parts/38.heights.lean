/-! heights and leads -/
/-- the greatest of those below k; 0: none -/
def mxN (P : Nat → Bool) (g : Nat → Nat) : Nat → Nat
  | 0 => 0
  | k + 1 => if P k = true then max (mxN P g k) (g k) else mxN P g k
theorem mxN_le {P : Nat → Bool} {g : Nat → Nat} {b : Nat} {k : Nat} (h : ∀ i, i < k → P i = true → g i ≤ b) : mxN P g k ≤ b := by
  induction k with
  | zero => exact Nat.zero_le _
  | succ k ih =>
    have h1 := ih (fun i hi => h i (by omega))
    unfold mxN
    split
    next hp => have := h k (by omega) hp; omega
    next => exact h1
theorem mxN_ge {P : Nat → Bool} {g : Nat → Nat} {k : Nat} {i : Nat} (hi : i < k) (hp : P i = true) : g i ≤ mxN P g k := by
  induction k with
  | zero => omega
  | succ k ih =>
    unfold mxN
    by_cases e : i = k
    · subst e; rw [if_pos hp]; omega
    · have := ih (by omega)
      split <;> omega
theorem mxN_cong {P : Nat → Bool} {g g' : Nat → Nat} {k : Nat} (h : ∀ i, i < k → P i = true → g i = g' i) : mxN P g k = mxN P g' k := by
  induction k with
  | zero => rfl
  | succ k ih =>
    unfold mxN
    rw [ih (fun i hi => h i (by omega))]
    by_cases hp : P k = true
    · rw [if_pos hp, if_pos hp, h k (by omega) hp]
    · rw [if_neg hp, if_neg hp]
def hgE (E : Nat → Nat → Bool) (w : Nat → Nat) (N : Nat) : Nat → Nat → Nat
  | 0, _ => 0
  | d + 1, i => w i + mxN (fun k => E i k) (hgE E w N d) N
def ldE (E : Nat → Nat → Bool) (w : Nat → Nat) (N : Nat) : Nat → Nat → Nat
  | 0, _ => 0
  | d + 1, i => mxN (fun k => E k i) (fun k => ldE E w N d k + w k) N
theorem hgE_le {E : Nat → Nat → Bool} {w : Nat → Nat} {N : Nat} (hw : ∀ i, i < N → w i ≤ 20) (d : Nat) : ∀ i, i < N → hgE E w N d i ≤ 20 * d := by
  induction d with
  | zero => intro i _; exact Nat.le_refl _
  | succ d ih =>
    intro i hi
    have h1 := hw i hi
    have h2 : mxN (fun k => E i k) (hgE E w N d) N ≤ 20 * d := mxN_le (fun k hk _ => ih k hk)
    show w i + mxN (fun k => E i k) (hgE E w N d) N ≤ _
    omega
theorem ldE_le {E : Nat → Nat → Bool} {w : Nat → Nat} {N : Nat} (hw : ∀ i, i < N → w i ≤ 20) (d : Nat) : ∀ i, i < N → ldE E w N d i ≤ 20 * d := by
  induction d with
  | zero => intro i _; exact Nat.le_refl _
  | succ d ih =>
    intro i hi
    exact mxN_le (fun k hk _ => by have := ih k hk; have := hw k hk; omega)
theorem hgE_st {E : Nat → Nat → Bool} {w : Nat → Nat} {N : Nat} {rk : Nat → Nat} (hr : Up E N rk) (hk : ∀ i, i < N → rk i < N) (d : Nat) : ∀ i, i < N → N ≤ rk i + d → hgE E w N (d + 1) i = hgE E w N d i := by
  induction d with
  | zero => intro i hi h; have := hk i hi; omega
  | succ d ih =>
    intro i hi h
    show w i + _ = w i + _
    rw [mxN_cong (fun k hk' he => ih k hk' (by have := hr i k hi hk' he; omega))]
theorem ldE_st {E : Nat → Nat → Bool} {w : Nat → Nat} {N : Nat} {rk : Nat → Nat} (hr : Up E N rk) (d : Nat) : ∀ i, i < N → rk i < d → ldE E w N (d + 1) i = ldE E w N d i := by
  induction d with
  | zero => intro i hi h; omega
  | succ d ih =>
    intro i hi h
    exact mxN_cong (fun k hk' he => by rw [ih k hk' (by have := hr k i hk' hi he; omega)])
/-- the work left, as a number -/
def wkN (F : Nat → Nat → Int32) (i : Nat) : Nat := ix (wkL F i)
def hgN (F : Nat → Nat → Int32) (N : Nat) (i : Nat) : Nat := hgE (edg F) (wkN F) N N i
def ldN (F : Nat → Nat → Int32) (N : Nat) (i : Nat) : Nat := ldE (edg F) (wkN F) N N i
/-- what the heights ask of the rows -/
def Wk (F : Nat → Nat → Int32) (N : Nat) : Prop := ∀ i, i < N → wkL F i = nI (wkN F i) ∧ wkN F i ≤ 20
section
variable {F : Nat → Nat → Int32} {N : Nat} {rk : Nat → Nat}
theorem hgN_eq (hr : Up (edg F) N rk) (hk : ∀ i, i < N → rk i < N) {i : Nat} (hi : i < N) : hgN F N i = wkN F i + mxN (fun k => edg F i k) (hgN F N) N := (hgE_st hr hk N i hi (by omega)).symm
theorem ldN_eq (hr : Up (edg F) N rk) (hk : ∀ i, i < N → rk i < N) {i : Nat} (hi : i < N) : ldN F N i = mxN (fun k => edg F k i) (fun k => ldN F N k + wkN F k) N := (ldE_st hr N i hi (hk i hi)).symm
theorem hgN_le (hN : N ≤ 20) (hw : Wk F N) {i : Nat} (hi : i < N) : hgN F N i ≤ 400 := by have := hgE_le (E := edg F) (fun i hi => (hw i hi).2) N i hi; unfold hgN; omega
theorem ldN_le (hN : N ≤ 20) (hw : Wk F N) {i : Nat} (hi : i < N) : ldN F N i ≤ 400 := by have := ldE_le (E := edg F) (fun i hi => (hw i hi).2) N i hi; unfold ldN; omega
/-- a row of heights on its way up -/
def HB (F : Nat → Nat → Int32) (N : Nat) (P : Nat → Nat → Int32) (x : Nat → Nat) : Prop := ∀ i, i < N → P 1 i = nI (x i) ∧ wkN F i ≤ x i ∧ x i ≤ hgN F N i
theorem rp_HB (hN : N ≤ 20) (hr : Up (edg F) N rk) (hk : ∀ i, i < N → rk i < N) (hw : Wk F N) {t : Nat} (ht : t < N) {P : Nat → Nat → Int32} {x : Nat → Nat} (h : HB F N P x) : ∀ k, k ≤ N → ∃ y, HB F N (rp F t P k).1 y ∧ (∀ i, i < N → x i ≤ y i) ∧ y t = x t ∧ (∀ i, i < k → edg F i t = true → wkN F i + x t ≤ y i) ∧ ((rp F t P k).2 = false → (rp F t P k).1 = P) := by
  intro k
  induction k with
  | zero => intro _; exact ⟨x, h, fun i _ => Nat.le_refl _, rfl, fun i hi => absurd hi (by omega), fun _ => rfl⟩
  | succ k ih =>
    intro hkN
    obtain ⟨y, y1, y2, y3, y4, y5⟩ := ih (by omega)
    have bk := y1 k (by omega)
    have bt' := y1 t ht
    have lek := hgN_le hN hw (show k < N by omega)
    have let' := hgN_le hN hw ht
    have hcmp : ((rp F t P k).1 1 k < wkL F k + (rp F t P k).1 1 t) ↔ y k < wkN F k + y t := by
      rw [bk.1, bt'.1, (hw k (by omega)).1, nI_add]
      have := (hw k (by omega)).2
      exact nI_ltI (by omega) (by omega)
    by_cases c : bt (prd F t) k = true ∧ (rp F t P k).1 1 k < wkL F k + (rp F t P k).1 1 t
    · have e : rp F t P (k + 1) = (uF (rp F t P k).1 1 k (wkL F k + (rp F t P k).1 1 t), true) := by rw [rp, if_pos c]
      have c2 := hcmp.mp c.2
      have hkt : k ≠ t := fun q => by have := hr k t (by omega) ht c.1; rw [q] at this; omega
      rw [e]
      refine ⟨fun i => if i = k then wkN F k + y t else y i, fun i hi => ?_, fun i hi => ?_, ?_, fun i hi he => ?_, fun q => by cases q⟩
      · dsimp only
        by_cases ei : i = k
        · subst ei
          rw [if_pos rfl, uF_s, (hw i hi).1, bt'.1, nI_add]
          refine ⟨rfl, by omega, ?_⟩
          rw [hgN_eq hr hk hi]
          have : hgN F N t ≤ mxN (fun q => edg F i q) (hgN F N) N := mxN_ge ht c.1
          omega
        · rw [if_neg ei, uF_i _ _ _ _ ei]; exact y1 i hi
      · have := y2 i hi
        dsimp only
        by_cases ei : i = k
        · subst ei; rw [if_pos rfl]; omega
        · rw [if_neg ei]; exact this
      · dsimp only
        rw [if_neg (fun q => hkt q.symm)]; exact y3
      · dsimp only
        by_cases ei : i = k
        · subst ei; rw [if_pos rfl, y3]; exact Nat.le_refl _
        · rw [if_neg ei]; exact y4 i (by omega) he
    · have e : rp F t P (k + 1) = rp F t P k := by rw [rp, if_neg c]
      rw [e]
      refine ⟨y, y1, y2, y3, fun i hi he => ?_, y5⟩
      by_cases ei : i = k
      · subst ei
        have : ¬ y i < wkN F i + y t := fun q => c ⟨he, hcmp.mpr q⟩
        rw [y3] at this
        omega
      · exact y4 i (by omega) he
theorem hpk_HB (hN : N ≤ 20) (hr : Up (edg F) N rk) (hk : ∀ i, i < N → rk i < N) (hw : Wk F N) {P : Nat → Nat → Int32} {x : Nat → Nat} (h : HB F N P x) : ∀ k, k ≤ N → ∃ y, HB F N (hpk F N P k).1 y ∧ (∀ i, i < N → x i ≤ y i) ∧ (∀ t, t < k → ∀ i, i < N → edg F i t = true → wkN F i + x t ≤ y i) ∧ ((hpk F N P k).2 = false → (hpk F N P k).1 = P) := by
  intro k
  induction k with
  | zero => intro _; exact ⟨x, h, fun i _ => Nat.le_refl _, fun t ht => absurd ht (by omega), fun _ => rfl⟩
  | succ k ih =>
    intro hkN
    obtain ⟨y, y1, y2, y3, y4⟩ := ih (by omega)
    obtain ⟨z, z1, z2, z3, z4, z5⟩ := rp_HB hN hr hk hw (show k < N by omega) y1 N (Nat.le_refl _)
    refine ⟨z, z1, fun i hi => Nat.le_trans (y2 i hi) (z2 i hi), fun t ht i hi he => ?_, fun q => ?_⟩
    · by_cases et : t = k
      · subst et
        have := z4 i hi he
        have := y2 t (by omega)
        omega
      · have := y3 t (by omega) i hi he
        have := z2 i hi
        omega
    · have q : ((hpk F N P k).2 || (rp F k (hpk F N P k).1 N).2) = false := q
      rw [Bool.or_eq_false_iff] at q
      show (rp F k (hpk F N P k).1 N).1 = P
      rw [z5 q.2, y4 q.1]
theorem htS_eq (hN : N ≤ 20) (hr : Up (edg F) N rk) (hk : ∀ i, i < N → rk i < N) (hw : Wk F N) : ∀ P i, i < N → htS F N P 1 i = nI (hgN F N i) := by
  intro P i hi
  have h0 : ∀ k, k ≤ N → ∀ i, i < k → hi0 F P k 1 i = nI (wkN F i) := by
    intro k
    induction k with
    | zero => intro _ i h; omega
    | succ k ih =>
      intro hk' i h
      unfold hi0
      by_cases e : i = k
      · subst e; rw [uF_s]; exact (hw i (by omega)).1
      · rw [uF_i _ _ _ _ e]; exact ih (by omega) i (by omega)
  have := itr_done (fun P => hpk F N P N) (fun j P => ∃ x, HB F N P x ∧ ∀ i, i < N → N ≤ rk i + j → x i = hgN F N i) (fun j P ⟨x, x1, x2⟩ => ?_) (fun j P ⟨x, x1, x2⟩ hb => ?_) 1000 (hi0 F P N) 0 ⟨wkN F, fun i hi => ⟨h0 N (Nat.le_refl _) i hi, Nat.le_refl _, by rw [hgN_eq hr hk hi]; omega⟩, fun i hi h => by have := hk i hi; omega⟩
  · obtain ⟨x, x1, x2⟩ := this
    show itr (fun P => hpk F N P N) 1000 (hi0 F P N) 1 i = _
    rw [(x1 i hi).1, x2 i hi (by omega)]
  · obtain ⟨y, y1, y2, y3, y4⟩ := hpk_HB hN hr hk hw x1 N (Nat.le_refl _)
    refine ⟨y, y1, fun i hi h => Nat.le_antisymm (y1 i hi).2.2 ?_⟩
    rw [hgN_eq hr hk hi]
    have : mxN (fun k => edg F i k) (hgN F N) N ≤ y i - wkN F i := mxN_le (fun k hk' he => by
      have e := x2 k hk' (by have := hr i k hi hk' he; omega)
      have := y3 k hk' i hi he
      omega)
    have := (y1 i hi).2.1
    omega
  · obtain ⟨y, y1, y2, y3, y4⟩ := hpk_HB hN hr hk hw x1 N (Nat.le_refl _)
    exact y4 hb
/-- a row of leads on its way up -/
def LB (F : Nat → Nat → Int32) (N : Nat) (P : Nat → Nat → Int32) (x : Nat → Nat) : Prop := ∀ i, i < N → P 2 i = nI (x i) ∧ x i ≤ ldN F N i
theorem rl_LB (hN : N ≤ 20) (hr : Up (edg F) N rk) (hk : ∀ i, i < N → rk i < N) (hw : Wk F N) {t : Nat} (ht : t < N) {P : Nat → Nat → Int32} {x : Nat → Nat} (h : LB F N P x) : ∀ k, k ≤ N → ∃ y, LB F N (rl F t P k).1 y ∧ (∀ i, i < N → x i ≤ y i) ∧ (∀ i, i ≠ t → y i = x i) ∧ (∀ i, i < k → edg F i t = true → x i + wkN F i ≤ y t) ∧ ((rl F t P k).2 = false → (rl F t P k).1 = P) := by
  intro k
  induction k with
  | zero => intro _; exact ⟨x, h, fun i _ => Nat.le_refl _, fun i _ => rfl, fun i hi => absurd hi (by omega), fun _ => rfl⟩
  | succ k ih =>
    intro hkN
    obtain ⟨y, y1, y2, y3, y4, y5⟩ := ih (by omega)
    have bk := y1 k (by omega)
    have bt' := y1 t ht
    have lek := ldN_le hN hw (show k < N by omega)
    have let' := ldN_le hN hw ht
    have hcmp : ((rl F t P k).1 2 t < (rl F t P k).1 2 k + wkL F k) ↔ y t < y k + wkN F k := by
      rw [bk.1, bt'.1, (hw k (by omega)).1, nI_add]
      have := (hw k (by omega)).2
      exact nI_ltI (by omega) (by omega)
    by_cases c : bt (prd F t) k = true ∧ (rl F t P k).1 2 t < (rl F t P k).1 2 k + wkL F k
    · have e : rl F t P (k + 1) = (uF (rl F t P k).1 2 t ((rl F t P k).1 2 k + wkL F k), true) := by rw [rl, if_pos c]
      have c2 := hcmp.mp c.2
      have hkt : k ≠ t := fun q => by have := hr k t (by omega) ht c.1; rw [q] at this; omega
      rw [e]
      refine ⟨fun i => if i = t then y k + wkN F k else y i, fun i hi => ?_, fun i hi => ?_, fun i hi => ?_, fun i hi he => ?_, fun q => by cases q⟩
      · dsimp only
        by_cases ei : i = t
        · subst ei
          rw [if_pos rfl, uF_s, (hw k (by omega)).1, bk.1, nI_add]
          refine ⟨rfl, ?_⟩
          rw [ldN_eq hr hk hi]
          have : ldN F N k + wkN F k ≤ mxN (fun q => edg F q i) (fun q => ldN F N q + wkN F q) N := mxN_ge (g := fun q => ldN F N q + wkN F q) (show k < N by omega) c.1
          omega
        · rw [if_neg ei, uF_i _ _ _ _ ei]; exact y1 i hi
      · have := y2 i hi
        dsimp only
        by_cases ei : i = t
        · subst ei; rw [if_pos rfl]; omega
        · rw [if_neg ei]; exact this
      · dsimp only
        rw [if_neg hi]; exact y3 i hi
      · dsimp only
        rw [if_pos rfl]
        by_cases ei : i = k
        · subst ei; rw [y3 i hkt]; exact Nat.le_refl _
        · have := y4 i (by omega) he; omega
    · have e : rl F t P (k + 1) = rl F t P k := by rw [rl, if_neg c]
      rw [e]
      refine ⟨y, y1, y2, y3, fun i hi he => ?_, y5⟩
      by_cases ei : i = k
      · subst ei
        have h1 : ¬ y t < y i + wkN F i := fun q => c ⟨he, hcmp.mpr q⟩
        have hit : i ≠ t := fun q => by have := hr i t (by omega) ht he; rw [q] at this; omega
        rw [y3 i hit] at h1
        omega
      · exact y4 i (by omega) he
theorem lpk_LB (hN : N ≤ 20) (hr : Up (edg F) N rk) (hk : ∀ i, i < N → rk i < N) (hw : Wk F N) {P : Nat → Nat → Int32} {x : Nat → Nat} (h : LB F N P x) : ∀ k, k ≤ N → ∃ y, LB F N (lpk F N P k).1 y ∧ (∀ i, i < N → x i ≤ y i) ∧ (∀ t, t < k → ∀ i, i < N → edg F i t = true → x i + wkN F i ≤ y t) ∧ ((lpk F N P k).2 = false → (lpk F N P k).1 = P) := by
  intro k
  induction k with
  | zero => intro _; exact ⟨x, h, fun i _ => Nat.le_refl _, fun t ht => absurd ht (by omega), fun _ => rfl⟩
  | succ k ih =>
    intro hkN
    obtain ⟨y, y1, y2, y3, y4⟩ := ih (by omega)
    obtain ⟨z, z1, z2, z3, z4, z5⟩ := rl_LB hN hr hk hw (show k < N by omega) y1 N (Nat.le_refl _)
    refine ⟨z, z1, fun i hi => Nat.le_trans (y2 i hi) (z2 i hi), fun t ht i hi he => ?_, fun q => ?_⟩
    · by_cases et : t = k
      · subst et
        have := z4 i hi he
        have := y2 i hi
        omega
      · have := y3 t (by omega) i hi he
        have := z2 t (by omega)
        omega
    · have q : ((lpk F N P k).2 || (rl F k (lpk F N P k).1 N).2) = false := q
      rw [Bool.or_eq_false_iff] at q
      show (rl F k (lpk F N P k).1 N).1 = P
      rw [z5 q.2, y4 q.1]
theorem leS_eq (hN : N ≤ 20) (hr : Up (edg F) N rk) (hk : ∀ i, i < N → rk i < N) (hw : Wk F N) : ∀ P i, i < N → leS F N P 2 i = nI (ldN F N i) := by
  intro P i hi
  have h0 : ∀ k, ∀ i, i < k → ld0 P k 2 i = nI 0 := by
    intro k
    induction k with
    | zero => intro i h; omega
    | succ k ih =>
      intro i h
      unfold ld0
      by_cases e : i = k
      · subst e; rw [uF_s]; rfl
      · rw [uF_i _ _ _ _ e]; exact ih i (by omega)
  have := itr_done (fun P => lpk F N P N) (fun j P => ∃ x, LB F N P x ∧ ∀ i, i < N → rk i < j → x i = ldN F N i) (fun j P ⟨x, x1, x2⟩ => ?_) (fun j P ⟨x, x1, x2⟩ hb => ?_) 1000 (ld0 P N) 0 ⟨fun _ => 0, fun i hi => ⟨h0 N i hi, Nat.zero_le _⟩, fun i hi h => by omega⟩
  · obtain ⟨x, x1, x2⟩ := this
    show itr (fun P => lpk F N P N) 1000 (ld0 P N) 2 i = _
    have := hk i hi
    rw [(x1 i hi).1, x2 i hi (by omega)]
  · obtain ⟨y, y1, y2, y3, y4⟩ := lpk_LB hN hr hk hw x1 N (Nat.le_refl _)
    refine ⟨y, y1, fun i hi h => Nat.le_antisymm (y1 i hi).2 ?_⟩
    rw [ldN_eq hr hk hi]
    exact mxN_le (fun k hk' he => by
      have e := x2 k hk' (by have := hr k i hk' hi he; omega)
      have := y3 i hi k hk' he
      omega)
  · obtain ⟨y, y1, y2, y3, y4⟩ := lpk_LB hN hr hk hw x1 N (Nat.le_refl _)
    exact y4 hb
end
