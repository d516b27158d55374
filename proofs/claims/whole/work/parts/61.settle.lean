/-! settle: it ends, and what it leaves -/
/-- an item is as its edges ask -/
def ok1 (F : Nat → Nat → Int32) (N i : Nat) : Prop := (F 5 i = 0 ∨ F 5 i = 1) → due F N i = F 5 i
def Std (N : Nat) (F : Nat → Nat → Int32) : Prop := ∀ i, i < N → ok1 F N i
theorem due_cong {F F' : Nat → Nat → Int32} {N i : Nat} (h11 : F' 11 i = F 11 i) (h12 : F' 12 i = F 12 i) (h5 : ∀ p, p < N → bt (prd F i) p = true → F' 5 p = F 5 p) : due F' N i = due F N i := by
  have hp : prd F' i = prd F i := by unfold prd; rw [h11, h12]
  have a1 : anyN (fun p => bt (F' 11 i) p && decide (3 < F' 5 p)) N = anyN (fun p => bt (F 11 i) p && decide (3 < F 5 p)) N := by
    apply anyN_cong
    intro p hpN
    show (bt (F' 11 i) p && decide (3 < F' 5 p)) = (bt (F 11 i) p && decide (3 < F 5 p))
    rw [h11]
    cases hb : bt (F 11 i) p with
    | false => rw [Bool.false_and, Bool.false_and]
    | true => rw [h5 p hpN (by rw [bt_prd, hb]; rfl)]
  have a2 : anyN (fun p => bt (prd F' i) p && !decide (3 ≤ F' 5 p)) N = anyN (fun p => bt (prd F i) p && !decide (3 ≤ F 5 p)) N := by
    apply anyN_cong
    intro p hpN
    show (bt (prd F' i) p && !decide (3 ≤ F' 5 p)) = (bt (prd F i) p && !decide (3 ≤ F 5 p))
    rw [hp]
    cases hb : bt (prd F i) p with
    | false => rw [Bool.false_and, Bool.false_and]
    | true => rw [h5 p hpN hb]
  unfold due
  rw [a1, a2]
theorem due_1 {F : Nat → Nat → Int32} {N i : Nat} (h : due F N i = 1) : ∀ p, p < N → bt (prd F i) p = true → 3 ≤ F 5 p := by
  intro p hp hb
  unfold due at h
  by_cases c1 : anyN (fun p => bt (F 11 i) p && decide (3 < F 5 p)) N = true
  · rw [if_pos c1] at h; exact absurd h (by decide)
  · rw [if_neg c1] at h
    by_cases c2 : anyN (fun p => bt (prd F i) p && !decide (3 ≤ F 5 p)) N = true
    · rw [if_pos c2] at h; exact absurd h (by decide)
    · by_cases c3 : 3 ≤ F 5 p
      · exact c3
      · refine absurd ((anyN_iff _ _).mpr ⟨p, hp, ?_⟩) c2
        show (bt (prd F i) p && !decide (3 ≤ F 5 p)) = true
        rw [hb, decide_eq_false c3]; rfl
section
variable {S : Nat → Int32} {N : Nat} {F : Nat → Nat → Int32}
theorem si_ok {i : Nat} (h : ok1 F N i) : si S N F i = (F, false) := by
  unfold si
  by_cases c : F 5 i = 0 ∨ F 5 i = 1
  · rw [if_pos c, if_pos (h c)]
  · rw [if_neg c]
/-- the three ways of an item -/
theorem si_3 (S : Nat → Int32) (N : Nat) (F : Nat → Nat → Int32) (i : Nat) : (ok1 F N i ∧ si S N F i = (F, false)) ∨ ((F 5 i = 0 ∨ F 5 i = 1) ∧ ¬ due F N i = F 5 i ∧ (si S N F i).2 = true ∧ (si S N F i).1 5 i = due F N i ∧ (∀ a j, j ≠ i → (si S N F i).1 a j = F a j) ∧ ∀ a, a ≠ 5 → a ≠ 6 → a ≠ 7 → (si S N F i).1 a = F a) := by
  by_cases c : F 5 i = 0 ∨ F 5 i = 1
  · by_cases d : due F N i = F 5 i
    · exact Or.inl ⟨fun _ => d, si_ok (fun _ => d)⟩
    · right
      refine ⟨c, d, ?_⟩
      by_cases e : due F N i = 1
      · have es : si S N F i = (uF (uF (uF F 5 i 1) 6 i (S 1 + F 4 i)) 7 i (S 1), true) := by rw [si, if_pos c, if_neg d, if_pos e]
        rw [es]
        refine ⟨rfl, ?_, fun a j hj => ?_, fun a h5 h6 h7 => ?_⟩
        · show uF (uF (uF F 5 i 1) 6 i (S 1 + F 4 i)) 7 i (S 1) 5 i = _
          rw [uF_j _ _ _ _ (by decide), uF_j _ _ _ _ (by decide), uF_s, e]
        · show uF (uF (uF F 5 i 1) 6 i (S 1 + F 4 i)) 7 i (S 1) a j = _
          rw [uF_i _ _ _ _ hj, uF_i _ _ _ _ hj, uF_i _ _ _ _ hj]
        · show uF (uF (uF F 5 i 1) 6 i (S 1 + F 4 i)) 7 i (S 1) a = _
          rw [uF_j _ _ _ _ h7, uF_j _ _ _ _ h6, uF_j _ _ _ _ h5]
      · have es : si S N F i = (uF F 5 i (due F N i), true) := by rw [si, if_pos c, if_neg d, if_neg e]
        rw [es]
        refine ⟨rfl, ?_, fun a j hj => ?_, fun a h5 h6 h7 => ?_⟩
        · show uF F 5 i (due F N i) 5 i = _
          exact uF_s _ _ _ _
        · show uF F 5 i (due F N i) a j = _
          exact uF_i _ _ _ _ hj _
        · show uF F 5 i (due F N i) a = _
          exact uF_j _ _ _ _ h5
  · exact Or.inl ⟨fun z => absurd z c, si_ok (fun z => absurd z c)⟩
theorem si_o (S : Nat → Int32) (N : Nat) (F : Nat → Nat → Int32) (i : Nat) : (∀ a j, j ≠ i → (si S N F i).1 a j = F a j) ∧ ∀ a, a ≠ 5 → a ≠ 6 → a ≠ 7 → (si S N F i).1 a = F a := by
  rcases si_3 S N F i with ⟨-, h⟩ | ⟨-, -, -, -, h1, h2⟩
  · rw [h]; exact ⟨fun a j _ => rfl, fun a _ _ _ => rfl⟩
  · exact ⟨h1, h2⟩
theorem si_s {i : Nat} (hs : bt (prd F i) i = false) : ok1 (si S N F i).1 N i := by
  rcases si_3 S N F i with ⟨h0, h⟩ | ⟨-, -, -, h5, h1, h2⟩
  · rw [h]; exact h0
  · intro _
    rw [h5]
    refine due_cong (by rw [h2 11 (by decide) (by decide) (by decide)]) (by rw [h2 12 (by decide) (by decide) (by decide)]) (fun p _ hb => h1 5 p (fun e => ?_))
    rw [e, hs] at hb; cases hb
theorem pas_o (S : Nat → Int32) (N : Nat) (F : Nat → Nat → Int32) (k : Nat) : ∀ a, a ≠ 5 → a ≠ 6 → a ≠ 7 → (pas S N F k).1 a = F a := by
  induction k with
  | zero => intro a _ _ _; rfl
  | succ k ih =>
    intro a h5 h6 h7
    show (si S N (pas S N F k).1 k).1 a = F a
    rw [(si_o S N (pas S N F k).1 k).2 a h5 h6 h7]
    exact ih a h5 h6 h7
theorem prd_pas (k i : Nat) : prd (pas S N F k).1 i = prd F i := by
  unfold prd
  rw [pas_o S N F k 11 (by decide) (by decide) (by decide), pas_o S N F k 12 (by decide) (by decide) (by decide)]
theorem pas_false {k : Nat} (h : (pas S N F k).2 = false) : (pas S N F k).1 = F ∧ ∀ i, i < k → ok1 F N i := by
  induction k with
  | zero => exact ⟨rfl, fun i hi => absurd hi (by omega)⟩
  | succ k ih =>
    have h : ((pas S N F k).2 || (si S N (pas S N F k).1 k).2) = false := h
    rw [Bool.or_eq_false_iff] at h
    obtain ⟨h1, h2⟩ := ih h.1
    rcases si_3 S N (pas S N F k).1 k with ⟨g0, g⟩ | ⟨-, -, g, -⟩
    · refine ⟨?_, fun i hi => ?_⟩
      · show (si S N (pas S N F k).1 k).1 = F
        rw [g]; exact h1
      · by_cases e : i = k
        · rw [e, ← h1]; rw [h1] at g0 ⊢; exact g0
        · exact h2 i (by omega)
    · rw [g] at h; cases h.2
theorem pas_std (h : Std N F) {k : Nat} (hk : k ≤ N) : pas S N F k = (F, false) := by
  induction k with
  | zero => rfl
  | succ k ih =>
    show ((si S N (pas S N F k).1 k).1, (pas S N F k).2 || (si S N (pas S N F k).1 k).2) = (F, false)
    rw [ih (by omega)]
    show ((si S N F k).1, false || (si S N F k).2) = (F, false)
    rw [si_ok (h k (by omega))]
    rfl
theorem stl_std (h : Std N F) (m : Nat) : stl S N (m + 1) F = F := by
  rw [stl, pas_std h (Nat.le_refl N)]
  exact if_neg Bool.false_ne_true
theorem pas_fix {rk : Nat → Nat} (hr : Up (edg F) N rk) {r : Nat} (hf : ∀ i, i < N → rk i < r → ok1 F N i) : ∀ k, k ≤ N → (∀ i, i < N → rk i < r → (pas S N F k).1 5 i = F 5 i) ∧ ∀ i, i < k → rk i = r → ok1 (pas S N F k).1 N i := by
  intro k
  induction k with
  | zero => intro _; exact ⟨fun i _ _ => rfl, fun i hi => absurd hi (by omega)⟩
  | succ k ih =>
    intro hk
    obtain ⟨h1, h2⟩ := ih (by omega)
    have ho := pas_o S N F k
    have hp : ∀ i, prd (pas S N F k).1 i = prd F i := fun i => prd_pas k i
    have e1 : (pas S N F (k + 1)).1 = (si S N (pas S N F k).1 k).1 := rfl
    rw [e1]
    generalize (pas S N F k).1 = X at h1 h2 ho hp ⊢
    have hrX : ∀ p i, p < N → i < N → bt (prd X i) p = true → rk p < rk i := fun p i hpN hi hb => hr p i hpN hi (by rw [hp] at hb; exact hb)
    by_cases c : rk k < r
    · have hok : ok1 X N k := by
        intro hz
        have e5 := h1 k (by omega) c
        rw [e5] at hz ⊢
        rw [← hf k (by omega) c hz]
        refine due_cong (by rw [ho 11 (by decide) (by decide) (by decide)]) (by rw [ho 12 (by decide) (by decide) (by decide)]) (fun p hpN hb => h1 p hpN ?_)
        have := hr p k hpN (by omega) hb
        omega
      rw [si_ok hok]
      refine ⟨h1, fun i hi hri => ?_⟩
      by_cases e : i = k
      · rw [e] at hri; omega
      · exact h2 i (by omega) hri
    · obtain ⟨o1, o2⟩ := si_o S N X k
      refine ⟨fun i hi hri => ?_, fun i hi hri => ?_⟩
      · rw [o1 5 i (fun e => by rw [e] at hri; omega)]; exact h1 i hi hri
      · by_cases e : i = k
        · rw [e]
          refine si_s ?_
          cases hb : bt (prd X k) k with
          | false => rfl
          | true => have := hrX k k (by omega) (by omega) hb; omega
        · intro hz
          rw [o1 5 i e] at hz ⊢
          rw [← h2 i (by omega) hri hz]
          refine due_cong (by rw [o2 11 (by decide) (by decide) (by decide)]) (by rw [o2 12 (by decide) (by decide) (by decide)]) (fun p hpN hb => o1 5 p (fun z => ?_))
          have := hrX p i hpN (by omega) hb
          rw [z] at this
          omega
theorem pas_nxt {rk : Nat → Nat} (hr : Up (edg F) N rk) {r : Nat} (hf : ∀ i, i < N → rk i < r → ok1 F N i) : ∀ i, i < N → rk i < r + 1 → ok1 (pas S N F N).1 N i := by
  obtain ⟨h1, h2⟩ := pas_fix (S := S) hr hf N (Nat.le_refl N)
  intro i hi hri
  by_cases e : rk i = r
  · exact h2 i hi e
  · intro hz
    have e5 := h1 i hi (by omega)
    rw [e5] at hz ⊢
    rw [← hf i hi (by omega) hz]
    refine due_cong (by rw [pas_o S N F N 11 (by decide) (by decide) (by decide)]) (by rw [pas_o S N F N 12 (by decide) (by decide) (by decide)]) (fun p hpN hb => h1 p hpN ?_)
    have := hr p i hpN hi hb
    omega
end
theorem stl_end {S : Nat → Int32} {N : Nat} {rk : Nat → Nat} (hk : ∀ i, i < N → rk i < N) : ∀ d r F m, r + d = N → Up (edg F) N rk → (∀ i, i < N → rk i < r → ok1 F N i) → d < m → stt S N m F = true ∧ Std N (stl S N m F) := by
  intro d
  induction d with
  | zero =>
    intro r F m hrd hr hf hm
    obtain ⟨m, rfl⟩ : ∃ k, m = k + 1 := ⟨m - 1, by omega⟩
    have hs : Std N F := fun i hi => hf i hi (by have := hk i hi; omega)
    refine ⟨?_, by rw [stl_std hs]; exact hs⟩
    rw [stt, pas_std hs (Nat.le_refl N)]
    exact if_neg Bool.false_ne_true
  | succ d ih =>
    intro r F m hrd hr hf hm
    obtain ⟨m, rfl⟩ : ∃ k, m = k + 1 := ⟨m - 1, by omega⟩
    cases hb : (pas S N F N).2 with
    | false =>
      obtain ⟨h1, h2⟩ := pas_false hb
      refine ⟨by rw [stt, if_neg (by rw [hb]; decide)], ?_⟩
      rw [stl, if_neg (by rw [hb]; decide), h1]
      exact h2
    | true =>
      rw [stt, if_pos hb, stl, if_pos hb]
      refine ih (r + 1) _ m (by omega) (fun p i hp hi he => hr p i hp hi ?_) (pas_nxt hr hf) (by omega)
      have he : bt (prd (pas S N F N).1 i) p = true := he
      rw [prd_pas] at he
      exact he
theorem stl_ok {S : Nat → Int32} {N : Nat} {F : Nat → Nat → Int32} {rk : Nat → Nat} (hN : N ≤ 20) (hr : Up (edg F) N rk) (hk : ∀ i, i < N → rk i < N) : stt S N 1000 F = true ∧ Std N (stl S N 1000 F) := stl_end hk N 0 F 1000 (by omega) hr (fun i _ h => absurd h (by omega)) (by omega)
theorem stl_o (S : Nat → Int32) (N : Nat) : ∀ m F a, a ≠ 5 → a ≠ 6 → a ≠ 7 → stl S N m F a = F a := by
  intro m
  induction m with
  | zero => intro F a _ _ _; rfl
  | succ m ih =>
    intro F a h5 h6 h7
    rw [stl]
    split
    · rw [ih _ a h5 h6 h7]; exact pas_o S N F N a h5 h6 h7
    · exact pas_o S N F N a h5 h6 h7
/-! what becomes ready or doomed is counted once -/
def R1 (N : Nat) (F : Nat → Nat → Int32) : Prop := ∀ j, j < N → F 5 j = 1 → due F N j = 1
section
variable {S : Nat → Int32} {N : Nat} {t : Int32}
theorem si_cnt {F : Nat → Nat → Int32} {k : Nat} (ht : t = 1 ∨ t = 5) (hk : k < N) (hs : bt (prd F k) k = false) (h : R1 N F) : R1 N (si S N F k).1 ∧ (∀ j, F 5 j = t → (si S N F k).1 5 j = t) ∧ cn (fun j => decide ((si S N F k).1 5 j = t)) N = cn (fun j => decide (F 5 j = t)) N + (if ((si S N F k).2 && decide ((si S N F k).1 5 k = t)) = true then 1 else 0) := by
  rcases si_3 S N F k with ⟨-, e⟩ | ⟨c, nd, h2, h5, o1, o2⟩
  · rw [e]
    refine ⟨h, fun j hj => hj, ?_⟩
    show cn (fun j => decide (F 5 j = t)) N = cn (fun j => decide (F 5 j = t)) N + (if (false && decide (F 5 k = t)) = true then 1 else 0)
    rw [Bool.false_and, if_neg (by decide), Nat.add_zero]
  · have c0 : F 5 k = 0 := by
      rcases c with c | c
      · exact c
      · exact absurd (by rw [c]; exact h k hk c) nd
    have t0 : ¬ t = 0 := by rcases ht with rfl | rfl <;> decide
    have d11 : (si S N F k).1 11 = F 11 := o2 11 (by decide) (by decide) (by decide)
    have d12 : (si S N F k).1 12 = F 12 := o2 12 (by decide) (by decide) (by decide)
    refine ⟨fun j hj h1 => ?_, fun j hj => ?_, ?_⟩
    · by_cases e : j = k
      · subst e
        rw [h5] at h1
        rw [← h1]
        refine due_cong (by rw [d11]) (by rw [d12]) (fun p _ hb => o1 5 p (fun z => ?_))
        rw [z, hs] at hb; cases hb
      · rw [o1 5 j e] at h1
        have hd := h j hj h1
        rw [← hd]
        refine due_cong (by rw [d11]) (by rw [d12]) (fun p hp hb => o1 5 p (fun z => ?_))
        have := due_1 hd p hp hb
        rw [z, c0] at this
        exact absurd this (by decide)
    · by_cases e : j = k
      · rw [e, c0] at hj; exact absurd hj.symm t0
      · rw [o1 5 j e]; exact hj
    · rw [h2, h5, Bool.true_and]
      by_cases ed : due F N k = t
      · rw [if_pos (decide_eq_true ed)]
        refine cn_one hk (fun i hi hne => by rw [o1 5 i hne]) ?_ ?_
        · exact decide_eq_false (fun z => t0 (z.symm.trans c0))
        · exact decide_eq_true (h5.trans ed)
      · rw [if_neg (by rw [decide_eq_false ed]; decide), Nat.add_zero]
        refine cn_cong (fun i hi => ?_)
        by_cases e : i = k
        · subst e
          rw [decide_eq_false (fun z => ed (h5.symm.trans z)), decide_eq_false (fun z => t0 (z.symm.trans c0))]
        · rw [o1 5 i e]
theorem pas_cnt {F : Nat → Nat → Int32} (ht : t = 1 ∨ t = 5) (hs : ∀ i, i < N → bt (prd F i) i = false) (h : R1 N F) : ∀ k, k ≤ N → R1 N (pas S N F k).1 ∧ (∀ j, F 5 j = t → (pas S N F k).1 5 j = t) ∧ cn (fun j => decide ((pas S N F k).1 5 j = t)) N = cn (fun j => decide (F 5 j = t)) N + pasC t S N F k := by
  intro k
  induction k with
  | zero => intro _; exact ⟨h, fun j hj => hj, rfl⟩
  | succ k ih =>
    intro hk
    obtain ⟨h1, h2, h3⟩ := ih (by omega)
    obtain ⟨g1, g2, g3⟩ := si_cnt (S := S) ht (show k < N by omega) (by rw [prd_pas]; exact hs k (by omega)) h1
    refine ⟨g1, fun j hj => g2 j (h2 j hj), ?_⟩
    show cn (fun j => decide ((si S N (pas S N F k).1 k).1 5 j = t)) N = _
    rw [g3, h3, pasC]
    omega
theorem stl_cnt (ht : t = 1 ∨ t = 5) : ∀ m (F : Nat → Nat → Int32), (∀ i, i < N → bt (prd F i) i = false) → R1 N F → (∀ j, F 5 j = t → stl S N m F 5 j = t) ∧ cn (fun j => decide (stl S N m F 5 j = t)) N = cn (fun j => decide (F 5 j = t)) N + stlC t S N m F := by
  intro m
  induction m with
  | zero => intro F _ _; exact ⟨fun j hj => hj, rfl⟩
  | succ m ih =>
    intro F hs h
    obtain ⟨h1, h2, h3⟩ := pas_cnt (S := S) ht hs h N (Nat.le_refl N)
    cases hb : (pas S N F N).2 with
    | false =>
      rw [stl, if_neg (by rw [hb]; decide), stlC, if_neg (by rw [hb]; decide)]
      exact ⟨h2, h3⟩
    | true =>
      rw [stl, if_pos hb, stlC, if_pos hb]
      obtain ⟨g1, g2⟩ := ih (pas S N F N).1 (fun i hi => by rw [prd_pas]; exact hs i hi) h1
      refine ⟨fun j hj => g1 j (h2 j hj), ?_⟩
      rw [g2, h3]
      omega
theorem end_cnt {F : Nat → Nat → Int32} (hN : N ≤ 20) (hS : Std N F) (hs : ∀ i, i < N → bt (prd F i) i = false) {i : Nat} (hi : i < N) {e : Int32} (ht : t = 1 ∨ t = 5) (h3 : ¬ 3 ≤ F 5 i) (he1 : ¬ e = 1) (het : ¬ e = t) (hFt : ¬ F 5 i = t) : (zEnd N S F i e t).1 = nI (stlC t S N 1000 (uF F 5 i e)) := by
  have hp : ∀ j, prd (uF F 5 i e) j = prd F j := fun j => by unfold prd; rw [uF_j _ _ _ _ (by decide), uF_j _ _ _ _ (by decide)]
  have hR : R1 N (uF F 5 i e) := by
    intro j hj h1
    by_cases ej : j = i
    · rw [ej, uF_s] at h1; exact absurd h1 he1
    · rw [uF_i _ _ _ _ ej] at h1
      have hd := hS j hj (Or.inr h1)
      rw [h1] at hd
      rw [← hd]
      refine due_cong (by rw [uF_j _ _ _ _ (by decide)]) (by rw [uF_j _ _ _ _ (by decide)]) (fun p hpN hb => uF_i _ _ _ _ (fun z => ?_) _)
      have := due_1 hd p hpN hb
      rw [z] at this
      exact h3 this
  obtain ⟨c1, c2⟩ := stl_cnt (S := S) ht 1000 (uF F 5 i e) (fun j hj => by rw [hp]; exact hs j hj) hR
  have eF : ∀ j, (uF F 5 i e 5 j = t) ↔ (F 5 j = t) := by
    intro j
    by_cases ej : j = i
    · rw [ej, uF_s]; exact ⟨fun z => absurd z het, fun z => absurd z hFt⟩
    · rw [uF_i _ _ _ _ ej]
  have c3 : cn (fun j => decide (uF F 5 i e 5 j = t)) N = cn (fun j => decide (F 5 j = t)) N := cn_cong (fun j _ => decide_eq_decide.mpr (eF j))
  rw [c3] at c2
  show bcF (msk (fun j => decide (stl S N 1000 (uF F 5 i e) 5 j = t)) N &&& (msk (fun j => decide (F 5 j = t)) N ^^^ -1)) = _
  generalize stl S N 1000 (uF F 5 i e) = Z at c1 c2 ⊢
  have hbit : ∀ j, bt (msk (fun j => decide (Z 5 j = t)) N &&& (msk (fun j => decide (F 5 j = t)) N ^^^ -1)) j = (decide (j < N) && (decide (Z 5 j = t) && !decide (F 5 j = t))) := by
    intro j
    rw [b_and, bt_msk _ (by omega)]
    by_cases hj : j < N
    · rw [b_not (by omega), bt_msk _ (by omega), decide_eq_true hj]
      simp
    · rw [decide_eq_false hj]; simp
  rw [bcF_N hN (fun j hj => by rw [hbit, Bool.and_eq_true, decide_eq_true_eq] at hj; exact hj.1)]
  congr 1
  have hsp := cn_split (fun j => decide (Z 5 j = t)) (fun j => decide (F 5 j = t)) N (fun j _ hj => decide_eq_true (c1 j ((eF j).mpr (of_decide_eq_true hj))))
  have hcc : cn (bt (msk (fun j => decide (Z 5 j = t)) N &&& (msk (fun j => decide (F 5 j = t)) N ^^^ -1))) N = cn (fun j => decide (Z 5 j = t) && !decide (F 5 j = t)) N := cn_cong (fun j hj => by rw [hbit, decide_eq_true hj, Bool.true_and])
  rw [hcc]
  omega
end
/-! the edges, counted -/
theorem ed_eq {N : Nat} {F : Nat → Nat → Int32} (hN : N ≤ 20) (hB : ∀ i, i < N → ∀ p, bt (prd F i) p = true → p < N) : sm (fun i => bcF (prd F i)) N = nI (edN F N) := by
  have : ∀ k, k ≤ N → sm (fun i => bcF (prd F i)) k = nI (sN (fun b => cn (fun a => bt (prd F b) a) N) k) := by
    intro k
    induction k with
    | zero => intro _; rfl
    | succ k ih =>
      intro hk
      show sm (fun i => bcF (prd F i)) k + bcF (prd F k) = nI (sN (fun b => cn (fun a => bt (prd F b) a) N) k + cn (fun a => bt (prd F k) a) N)
      rw [ih (by omega), bcF_N hN (hB k (by omega)), nI_add]
  exact this N (Nat.le_refl N)
