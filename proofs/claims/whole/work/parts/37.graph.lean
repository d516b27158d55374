/-! ranks -/
theorem cn_mono {P Q : Nat → Bool} {k : Nat} (h : ∀ j, j < k → P j = true → Q j = true) : cn P k ≤ cn Q k := by
  induction k with
  | zero => exact Nat.le_refl _
  | succ k ih =>
    have := ih (fun j hj => h j (by omega))
    unfold cn
    by_cases hp : P k = true
    · rw [if_pos hp, if_pos (h k (by omega) hp)]; omega
    · rw [if_neg hp]; split <;> omega
theorem cn_lt {P Q : Nat → Bool} {k : Nat} (h : ∀ j, j < k → P j = true → Q j = true) {i : Nat} (hi : i < k) (h1 : Q i = true) (h2 : P i = false) : cn P k < cn Q k := by
  induction k with
  | zero => omega
  | succ k ih =>
    unfold cn
    by_cases e : i = k
    · subst e
      have := cn_mono (k := i) (fun j hj => h j (by omega))
      rw [if_pos h1, if_neg (by rw [h2]; decide)]; omega
    · have := ih (fun j hj => h j (by omega)) (by omega)
      by_cases hp : P k = true
      · rw [if_pos hp, if_pos (h k (by omega) hp)]; omega
      · rw [if_neg hp]; split <;> omega
theorem cn_full (k : Nat) : cn (fun _ => true) k = k := by
  induction k with
  | zero => rfl
  | succ k ih => rw [cn, ih, if_pos rfl]
/-- a graph on the first N whose edges go up -/
def Up (E : Nat → Nat → Bool) (N : Nat) (rk : Nat → Nat) : Prop := ∀ p i, p < N → i < N → E p i = true → rk p < rk i
theorem Up.low {E : Nat → Nat → Bool} {N : Nat} {rk : Nat → Nat} (h : Up E N rk) : ∃ rk', Up E N rk' ∧ ∀ i, i < N → rk' i < N := by
  refine ⟨fun i => cn (fun j => decide (rk j < rk i)) N, fun p i hp hi he => ?_, fun i hi => ?_⟩
  · have := h p i hp hi he
    exact cn_lt (fun j hj z => decide_eq_true (Nat.lt_trans (of_decide_eq_true z) this)) hp (decide_eq_true this) (decide_eq_false (by omega))
  · have := cn_lt (P := fun j => decide (rk j < rk i)) (Q := fun _ => true) (k := N) (fun _ _ _ => rfl) hi rfl (decide_eq_false (by omega))
    rw [cn_full] at this
    exact this
/-- passes until nothing changes -/
theorem itr_done {α : Type} (f : α → α × Bool) (I : Nat → α → Prop) (hs : ∀ j x, I j x → I (j + 1) (f x).1) (he : ∀ j x, I j x → (f x).2 = false → (f x).1 = x) : ∀ m x j, I j x → I (j + m) (itr f m x) := by
  intro m
  induction m with
  | zero => intro x j h; exact h
  | succ m ih =>
    intro x j h
    unfold itr
    cases hb : (f x).2 with
    | true =>
      rw [if_pos rfl]
      have := ih (f x).1 (j + 1) (hs j x h)
      rw [show j + (m + 1) = j + 1 + m by omega]
      exact this
    | false =>
      rw [if_neg (by decide)]
      have e := he j x h hb
      rw [e]
      have : ∀ k, I (j + k) x := by
        intro k
        induction k with
        | zero => exact h
        | succ k ihk =>
          have := hs _ _ ihk
          rw [e] at this
          exact this
      exact this (m + 1)
/-! what is before an item -/
/-- X i p: p is before i -/
def Bf (E : Nat → Nat → Bool) (N : Nat) (X : Nat → Nat → Bool) : Prop := ∀ i, i < N → ∀ p, X i p = anyN (fun q => E q i && (decide (q = p) || X q p)) N
theorem Bf.uniq {E : Nat → Nat → Bool} {N : Nat} {rk : Nat → Nat} (hr : Up E N rk) {X Y : Nat → Nat → Bool} (hX : Bf E N X) (hY : Bf E N Y) : ∀ i, i < N → ∀ p, X i p = Y i p := by
  have : ∀ n i, rk i < n → i < N → ∀ p, X i p = Y i p := by
    intro n
    induction n with
    | zero => intro i h; omega
    | succ n ih =>
      intro i h hi p
      rw [hX i hi p, hY i hi p]
      apply anyN_cong
      intro q hq
      cases he : E q i with
      | false => rfl
      | true => rw [ih q (by have := hr q i hq hi he; omega) hq p]
  exact fun i hi p => this (rk i + 1) i (by omega) hi p
theorem Bf.edge {E : Nat → Nat → Bool} {N : Nat} {X : Nat → Nat → Bool} (h : Bf E N X) {i q : Nat} (hi : i < N) (hq : q < N) (he : E q i = true) : X i q = true := by
  rw [h i hi q]
  exact (anyN_iff _ _).mpr ⟨q, hq, by rw [he, decide_eq_true rfl]; rfl⟩
theorem Bf.step {E : Nat → Nat → Bool} {N : Nat} {X : Nat → Nat → Bool} (h : Bf E N X) {i q p : Nat} (hi : i < N) (hq : q < N) (he : E q i = true) (hp : X q p = true) : X i p = true := by
  rw [h i hi p]
  exact (anyN_iff _ _).mpr ⟨q, hq, by rw [he, hp, Bool.or_true]; rfl⟩
theorem Bf.rk {E : Nat → Nat → Bool} {N : Nat} {rk : Nat → Nat} (hr : Up E N rk) {X : Nat → Nat → Bool} (h : Bf E N X) : ∀ i, i < N → ∀ p, X i p = true → p < N ∧ rk p < rk i := by
  have : ∀ n i, rk i < n → i < N → ∀ p, X i p = true → p < N ∧ rk p < rk i := by
    intro n
    induction n with
    | zero => intro i h; omega
    | succ n ih =>
      intro i hn hi p hp
      rw [h i hi p] at hp
      obtain ⟨q, hq, hz⟩ := (anyN_iff _ _).mp hp
      rw [Bool.and_eq_true, Bool.or_eq_true, decide_eq_true_eq] at hz
      have hqi := hr q i hq hi hz.1
      rcases hz.2 with rfl | h2
      · exact ⟨hq, hqi⟩
      · have := ih q (by omega) hq p h2
        exact ⟨this.1, by omega⟩
  exact fun i hi p => this (rk i + 1) i (by omega) hi p
/-- one step of Warshall's way -/
def wst (N : Nat) (X : Nat → Int32) (m : Nat) : Nat → Int32 := fun i => if i < N ∧ bt (X i) m = true then X i ||| X m else X i
theorem or_self (x : Int32) : x ||| x = x := b_ext fun i _ => by rw [b_or, Bool.or_self]
theorem wi_row (m : Nat) (P : Nat → Nat → Int32) (k : Nat) : ∀ i, wi m P k 0 i = if i < k ∧ bt (P 0 i) m = true then P 0 i ||| P 0 m else P 0 i := by
  induction k with
  | zero => intro i; rw [if_neg (by omega)]; rfl
  | succ k ih =>
    intro i
    have hk : wi m P k 0 k = P 0 k := by rw [ih k, if_neg (by omega)]
    have hm : wi m P k 0 m = P 0 m := by
      rw [ih m]
      split
      next => exact or_self _
      next => rfl
    unfold wi
    rw [hk, hm]
    by_cases hb : bt (P 0 k) m = true
    · rw [if_pos hb]
      by_cases e : i = k
      · subst e; rw [uF_s, if_pos ⟨by omega, hb⟩]
      · rw [uF_i _ _ _ _ e, ih i]
        by_cases h1 : i < k
        · by_cases h2 : bt (P 0 i) m = true
          · rw [if_pos ⟨h1, h2⟩, if_pos ⟨by omega, h2⟩]
          · rw [if_neg (fun z => h2 z.2), if_neg (fun z => h2 z.2)]
        · rw [if_neg (by omega), if_neg (by omega)]
    · rw [if_neg hb, ih i]
      by_cases e : i = k
      · subst e; rw [if_neg (by omega), if_neg (fun z => hb z.2)]
      · by_cases h1 : i < k
        · by_cases h2 : bt (P 0 i) m = true
          · rw [if_pos ⟨h1, h2⟩, if_pos ⟨by omega, h2⟩]
          · rw [if_neg (fun z => h2 z.2), if_neg (fun z => h2 z.2)]
        · rw [if_neg (by omega), if_neg (by omega)]
theorem wo_step (N : Nat) (P : Nat → Nat → Int32) (m : Nat) : wo N P (m + 1) 0 = wst N (wo N P m 0) m := by
  funext i
  exact wi_row m (wo N P m) N i
theorem wst_bt (N : Nat) (X : Nat → Int32) (m i p : Nat) : bt (wst N X m i) p = (bt (X i) p || (decide (i < N) && bt (X i) m && bt (X m) p)) := by
  unfold wst
  by_cases h : i < N ∧ bt (X i) m = true
  · rw [if_pos h, b_or, decide_eq_true h.1, h.2]; rfl
  · rw [if_neg h]
    cases hb : bt (X i) m
    · simp
    · have : ¬ i < N := fun z => h ⟨z, hb⟩
      rw [decide_eq_false this]; simp
theorem bi_row (F P : Nat → Nat → Int32) (k : Nat) : ∀ i, i < k → bi F P k 0 i = prd F i := by
  induction k with
  | zero => intro i h; omega
  | succ k ih =>
    intro i h
    unfold bi
    by_cases e : i = k
    · subst e; exact uF_s _ _ _ _
    · rw [uF_i _ _ _ _ e]; exact ih i (by omega)
/-- an edge -/
abbrev edg (F : Nat → Nat → Int32) : Nat → Nat → Bool := fun p i => bt (prd F i) p
theorem bfS_Bf {F : Nat → Nat → Int32} {N : Nat} (hB : ∀ i, i < N → ∀ p, bt (prd F i) p = true → p < N) (P : Nat → Nat → Int32) : Bf (edg F) N (fun i p => bt (bfS F N P 0 i) p) := by
  -- all that is kept while the steps go on
  have main : ∀ k, k ≤ N → (∀ i, i < N → ∀ p, bt (prd F i) p = true → bt (wo N (bi F P N) k 0 i) p = true) ∧ (∀ q, q < k → ∀ i, i < N → ∀ p, bt (wo N (bi F P N) k 0 i) q = true → bt (wo N (bi F P N) k 0 q) p = true → bt (wo N (bi F P N) k 0 i) p = true) ∧ (∀ i, i < N → ∀ p, bt (wo N (bi F P N) k 0 i) p = true → ∃ q, q < N ∧ bt (prd F i) q = true ∧ (q = p ∨ bt (wo N (bi F P N) k 0 q) p = true)) := by
    intro k
    induction k with
    | zero =>
      intro _
      have e : ∀ i, i < N → wo N (bi F P N) 0 0 i = prd F i := fun i hi => bi_row F P N i hi
      refine ⟨fun i hi p hp => by rw [e i hi]; exact hp, fun q hq => absurd hq (by omega), fun i hi p hp => ?_⟩
      rw [e i hi] at hp
      exact ⟨p, hB i hi p hp, hp, Or.inl rfl⟩
    | succ k ih =>
      intro hk
      obtain ⟨i1, i2, i3⟩ := ih (by omega)
      rw [wo_step]
      generalize wo N (bi F P N) k 0 = X at i1 i2 i3 ⊢
      have mono : ∀ i p, bt (X i) p = true → bt (wst N X k i) p = true := fun i p h => by rw [wst_bt, h]; rfl
      have fwd : ∀ i p, bt (wst N X k i) p = true → bt (X i) p = true ∨ (i < N ∧ bt (X i) k = true ∧ bt (X k) p = true) := by
        intro i p h
        rw [wst_bt, Bool.or_eq_true, Bool.and_eq_true, Bool.and_eq_true, decide_eq_true_eq] at h
        rcases h with h | ⟨⟨h1, h2⟩, h3⟩
        · exact Or.inl h
        · exact Or.inr ⟨h1, h2, h3⟩
      have via : ∀ i p, i < N → bt (X i) k = true → bt (X k) p = true → bt (wst N X k i) p = true := by
        intro i p h1 h2 h3
        rw [wst_bt, decide_eq_true h1, h2, h3]; simp
      have rowk : ∀ p, bt (wst N X k k) p = true → bt (X k) p = true := by
        intro p h
        rcases fwd k p h with h | h
        · exact h
        · exact h.2.2
      have tok : ∀ i, bt (wst N X k i) k = true → bt (X i) k = true := by
        intro i h
        rcases fwd i k h with h | h
        · exact h
        · exact h.2.1
      refine ⟨fun i hi p hp => mono i p (i1 i hi p hp), fun q hq i hi p h1 h2 => ?_, fun i hi p hp => ?_⟩
      · by_cases e : q = k
        · subst e
          exact via i p hi (tok i h1) (rowk p h2)
        · have hqk : q < k := by omega
          rcases fwd i q h1 with a | a <;> rcases fwd q p h2 with b | b
          · exact mono i p (i2 q hqk i hi p a b)
          · exact via i p hi (i2 q hqk i hi k a b.2.1) b.2.2
          · exact via i p hi a.2.1 (i2 q hqk k (by omega) p a.2.2 b)
          · exact via i p hi a.2.1 b.2.2
      · rcases fwd i p hp with a | a
        · obtain ⟨q, q1, q2, q3⟩ := i3 i hi p a
          exact ⟨q, q1, q2, q3.imp id (mono q p)⟩
        · obtain ⟨q, q1, q2, q3⟩ := i3 i hi k a.2.1
          rcases q3 with rfl | q3
          · exact ⟨q, q1, q2, Or.inr (mono q p a.2.2)⟩
          · exact ⟨q, q1, q2, Or.inr (via q p q1 q3 a.2.2)⟩
  obtain ⟨m1, m2, m3⟩ := main N (Nat.le_refl _)
  intro i hi p
  show bt (wo N (bi F P N) N 0 i) p = _
  cases hb : bt (wo N (bi F P N) N 0 i) p with
  | true =>
    obtain ⟨q, q1, q2, q3⟩ := m3 i hi p hb
    refine ((anyN_iff _ _).mpr ⟨q, q1, ?_⟩).symm
    show (bt (prd F i) q && (decide (q = p) || bt (wo N (bi F P N) N 0 q) p)) = true
    rw [q2, Bool.true_and, Bool.or_eq_true, decide_eq_true_eq]
    exact q3
  | false =>
    symm
    rw [← Bool.not_eq_true]
    intro h
    obtain ⟨q, q1, q2⟩ := (anyN_iff _ _).mp h
    have q2 : (bt (prd F i) q && (decide (q = p) || bt (wo N (bi F P N) N 0 q) p)) = true := q2
    rw [Bool.and_eq_true, Bool.or_eq_true, decide_eq_true_eq] at q2
    have hq := m1 i hi q q2.1
    rcases q2.2 with rfl | h2
    · rw [hq] at hb; cases hb
    · rw [m2 q q1 i hi p hq h2] at hb; cases hb
/-- the set before an item -/
def bfN (F : Nat → Nat → Int32) (N : Nat) : Nat → Int32 := bfS F N (fun _ _ => 0) 0
theorem bfS_eq {F : Nat → Nat → Int32} {N : Nat} {rk : Nat → Nat} (hr : Up (edg F) N rk) (hB : ∀ i, i < N → ∀ p, bt (prd F i) p = true → p < N) : ∀ P i, i < N → bfS F N P 0 i = bfN F N i := fun P i hi => b_ext fun p _ => Bf.uniq hr (bfS_Bf hB P) (bfS_Bf hB (fun _ _ => 0)) i hi p
theorem bfN_Bf {F : Nat → Nat → Int32} {N : Nat} (hB : ∀ i, i < N → ∀ p, bt (prd F i) p = true → p < N) : Bf (edg F) N (fun i p => bt (bfN F N i) p) := bfS_Bf hB _
