/-! what holds between the calls -/
def It (F : Nat → Nat → Int32) (i : Nat) : Prop := (∃ v, 1 ≤ v ∧ v ≤ 20 ∧ F 1 i = nI v) ∧ 0 ≤ F 5 i ∧ ∃ t k, 1 ≤ t ∧ t ≤ 5 ∧ k ≤ 5 ∧ F 2 i = nI t ∧ F 9 i = nI k ∧ (F 5 i = 0 ∨ F 5 i = 1 → k < t) ∧ (F 5 i = 2 → 1 ≤ k ∧ k ≤ t)
/-- the edges are a graph without a cycle -/
def Ac (N : Nat) (F : Nat → Nat → Int32) : Prop := N ≤ 20 ∧ (∃ rk, Up (edg F) N rk ∧ ∀ i, i < N → rk i < N) ∧ ∀ i, i < N → ∀ p, bt (prd F i) p = true → p < N
def PI (N : Nat) (F : Nat → Nat → Int32) : Prop := Ac N F ∧ ∀ i, i < N → It F i
def Inv (N : Nat) (F : Nat → Nat → Int32) : Prop := PI N F ∧ Std N F
theorem It_cong {F F' : Nat → Nat → Int32} {i : Nat} (h1 : F' 1 i = F 1 i) (h2 : F' 2 i = F 2 i) (h5 : F' 5 i = F 5 i) (h9 : F' 9 i = F 9 i) (h : It F i) : It F' i := by
  unfold It
  rw [h1, h2, h5, h9]
  exact h
theorem Ac_sub {N : Nat} {F F' : Nat → Nat → Int32} (hA : Ac N F) (h : ∀ i, i < N → ∀ p, bt (prd F' i) p = true → bt (prd F i) p = true) : Ac N F' := by
  obtain ⟨a0, ⟨rk, a1, a2⟩, a3⟩ := hA
  exact ⟨a0, ⟨rk, fun p i hp hi he => a1 p i hp hi (h i hi p he), a2⟩, fun i hi p hb => a3 i hi p (h i hi p hb)⟩
theorem Ac_cong {N : Nat} {F F' : Nat → Nat → Int32} (hA : Ac N F) (h11 : ∀ i, i < N → F' 11 i = F 11 i) (h12 : ∀ i, i < N → F' 12 i = F 12 i) : Ac N F' := Ac_sub hA (fun i hi p hb => by unfold prd at hb ⊢; rw [h11 i hi, h12 i hi] at hb; exact hb)
theorem Ac.stt {N : Nat} {F : Nat → Nat → Int32} (hA : Ac N F) (S : Nat → Int32) : stt S N 1000 F = true := by
  obtain ⟨a0, ⟨rk, a1, a2⟩, a3⟩ := hA
  exact (stl_ok a0 a1 a2).1
theorem Ac.stl {N : Nat} {F : Nat → Nat → Int32} (hA : Ac N F) (S : Nat → Int32) : Ac N (stl S N 1000 F) := Ac_cong hA (fun i _ => by rw [stl_o S N 1000 F 11 (by decide) (by decide) (by decide)]) (fun i _ => by rw [stl_o S N 1000 F 12 (by decide) (by decide) (by decide)])
theorem Ac.self {N : Nat} {F : Nat → Nat → Int32} (hA : Ac N F) : ∀ i, i < N → bt (prd F i) i = false := by
  obtain ⟨a0, ⟨rk, a1, a2⟩, a3⟩ := hA
  intro i hi
  cases hb : bt (prd F i) i with
  | false => rfl
  | true => have := a1 i i hi hi hb; omega
theorem It_si {S : Nat → Int32} {N : Nat} {F : Nat → Nat → Int32} (k i : Nat) (h : It F i) : It (si S N F k).1 i := by
  rcases si_3 S N F k with ⟨-, e⟩ | ⟨c, -, -, h5, o1, o2⟩
  · rw [e]; exact h
  · by_cases e : i = k
    · subst e
      obtain ⟨v, h0, t, r, g1, g2, g3, g4, g5, g6, g7⟩ := h
      have hk := g6 c
      unfold It
      rw [h5, o2 1 (by decide) (by decide) (by decide), o2 2 (by decide) (by decide) (by decide), o2 9 (by decide) (by decide) (by decide)]
      refine ⟨v, ?_, t, r, g1, g2, g3, g4, g5, fun _ => hk, fun z => ?_⟩
      · rcases due_3 F N i with q | q | q <;> rw [q] <;> decide
      · rcases due_3 F N i with q | q | q <;> rw [q] at z <;> exact absurd z (by decide)
    · exact It_cong (o1 1 i e) (o1 2 i e) (o1 5 i e) (o1 9 i e) h
theorem It_pas {S : Nat → Int32} {N : Nat} {F : Nat → Nat → Int32} (k i : Nat) (h : It F i) : It (pas S N F k).1 i := by
  induction k with
  | zero => exact h
  | succ k ih => exact It_si k i ih
theorem It_stl {S : Nat → Int32} {N : Nat} (i : Nat) : ∀ m F, It F i → It (stl S N m F) i := by
  intro m
  induction m with
  | zero => intro F h; exact h
  | succ m ih =>
    intro F h
    rw [stl]
    split
    · exact ih _ (It_pas N i h)
    · exact It_pas N i h
theorem PI.inv {N : Nat} {F : Nat → Nat → Int32} (h : PI N F) (S : Nat → Int32) : Inv N (stl S N 1000 F) := by
  refine ⟨⟨h.1.stl S, fun i hi => It_stl i 1000 F (h.2 i hi)⟩, ?_⟩
  obtain ⟨a0, ⟨rk, a1, a2⟩, a3⟩ := h.1
  exact (stl_ok a0 a1 a2).2
theorem Std_cong {N : Nat} {F F' : Nat → Nat → Int32} (hB : ∀ i, i < N → ∀ p, bt (prd F i) p = true → p < N) (h5 : ∀ i, i < N → F' 5 i = F 5 i) (h11 : ∀ i, i < N → F' 11 i = F 11 i) (h12 : ∀ i, i < N → F' 12 i = F 12 i) (h : Std N F) : Std N F' := by
  intro i hi hz
  rw [h5 i hi] at hz ⊢
  rw [← h i hi hz]
  exact due_cong (h11 i hi) (h12 i hi) (fun p hp _ => h5 p hp)
theorem Inv_cong {N : Nat} {F F' : Nat → Nat → Int32} (h : Inv N F) (he : ∀ i, i < N → F' 1 i = F 1 i ∧ F' 2 i = F 2 i ∧ F' 5 i = F 5 i ∧ F' 9 i = F 9 i ∧ F' 11 i = F 11 i ∧ F' 12 i = F 12 i) : Inv N F' := by
  obtain ⟨⟨hA, hI⟩, hS⟩ := h
  exact ⟨⟨Ac_cong hA (fun i hi => (he i hi).2.2.2.2.1) (fun i hi => (he i hi).2.2.2.2.2), fun i hi => It_cong (he i hi).1 (he i hi).2.1 (he i hi).2.2.1 (he i hi).2.2.2.1 (hI i hi)⟩, Std_cong hA.2.2 (fun i hi => (he i hi).2.2.1) (fun i hi => (he i hi).2.2.2.2.1) (fun i hi => (he i hi).2.2.2.2.2) hS⟩
section
variable {N : Nat} {F : Nat → Nat → Int32}
theorem Inv.le (h : Inv N F) : N ≤ 20 := h.1.1.1
theorem It.wk {i : Nat} (h : It F i) : wkL F i = nI (wkN F i) ∧ wkN F i ≤ 20 ∧ (opF F i = true → 1 ≤ wkN F i) := by
  obtain ⟨⟨v, v1, v2, hv⟩, -⟩ := h
  unfold wkN opF
  by_cases c : 3 ≤ F 5 i
  · have e : wkL F i = nI 0 := by rw [wkL, if_pos c]; rfl
    rw [e, ix_nI (by omega)]
    refine ⟨rfl, by omega, fun z => ?_⟩
    rw [decide_eq_true c] at z; cases z
  · have e : wkL F i = nI v := by rw [wkL, if_neg c]; exact hv
    rw [e, ix_nI (by omega)]
    exact ⟨rfl, v2, fun _ => v1⟩
theorem Inv.gr (h : Inv N F) : Gr N F := ⟨h.1.1.2.1, fun i hi => ⟨(h.1.2 i hi).wk.1, (h.1.2 i hi).wk.2.1⟩, h.1.1.2.2⟩
theorem Inv.w1 (h : Inv N F) : ∀ i, i < N → opF F i = true → 1 ≤ wkN F i := fun i hi => (h.1.2 i hi).wk.2.2
theorem Inv.s0 (h : Inv N F) : ∀ i, i < N → 0 ≤ F 5 i := fun i hi => (h.1.2 i hi).2.1
theorem Inv.ed (h : Inv N F) : sm (fun i => bcF (prd F i)) N = nI (edN F N) := ed_eq h.le h.1.1.2.2
theorem Inv_0 (F : Nat → Nat → Int32) : Inv 0 F := ⟨⟨⟨by omega, ⟨fun _ => 0, fun p i hp => absurd hp (by omega), fun i hi => absurd hi (by omega)⟩, fun i hi => absurd hi (by omega)⟩, fun i hi => absurd hi (by omega)⟩, fun i hi => absurd hi (by omega)⟩
/-! link and unlink -/
theorem prd_dr {p i : Nat} (hp : p < 32) : ∀ j q, bt (prd (drF F p i) j) q = true → bt (prd F j) q = true := by
  intro j q hb
  by_cases e : j = i
  · subst e
    rw [bt_prd, drF_11, drF_12, b_drop hp, b_drop hp] at hb
    rw [bt_prd]
    cases h1 : bt (F 11 j) q <;> cases h2 : bt (F 12 j) q <;> rw [h1, h2] at hb <;> first | rfl | (simp at hb)
  · unfold prd at hb ⊢
    rw [drF_i F p i 11 e, drF_i F p i 12 e] at hb
    exact hb
theorem Inv.dr (h : Inv N F) {x y : Nat} (hx : x < N) : PI N (drF F x y) := by
  have := h.le
  refine ⟨Ac_sub h.1.1 (fun i _ p hb => prd_dr (by omega) i p hb), fun i hi => ?_⟩
  refine It_cong ?_ ?_ ?_ ?_ (h.1.2 i hi)
  · rw [drF_o F x y 1 (by decide) (by decide)]
  · rw [drF_o F x y 2 (by decide) (by decide)]
  · rw [drF_o F x y 5 (by decide) (by decide)]
  · rw [drF_o F x y 9 (by decide) (by decide)]
theorem Inv.pt (h : Inv N F) {x y : Nat} (hx : x < N) (hy : y < N) (k : Int32) (hc : (decide (nI x = nI y) || bt (bfN F N x) y) = false) : PI N (ptF F x y k) := by
  have hN := h.le
  obtain ⟨-, ⟨rk, a1, a2⟩, a3⟩ := h.1.1
  have hX := bfN_Bf a3
  rw [Bool.or_eq_false_iff, decide_eq_false_iff_not] at hc
  have hxy : x ≠ y := fun z => hc.1 (by rw [z])
  have hpr : ∀ i p, bt (prd (ptF F x y k) i) p = true → bt (prd F i) p = true ∨ (i = y ∧ p = x) := by
    intro i p hb
    by_cases e : i = y
    · subst e
      obtain ⟨b1, b2⟩ := bt_pt F (show x < 32 by omega) i k p
      rw [bt_prd, b1, b2] at hb
      by_cases ep : p = x
      · exact Or.inr ⟨rfl, ep⟩
      · rw [if_neg ep, if_neg ep] at hb
        left; rw [bt_prd]; exact hb
    · left
      unfold prd at hb ⊢
      rw [ptF_i F x y k 11 e, ptF_i F x y k 12 e] at hb
      exact hb
  refine ⟨⟨hN, ?_, fun i hi p hb => ?_⟩, fun i hi => ?_⟩
  · -- those behind y go up
    refine Up.low (rk := fun i => if i = y ∨ bt (bfN F N i) y = true then rk i + N else rk i) ?_
    intro p i hp hi he
    show (if p = y ∨ bt (bfN F N p) y = true then rk p + N else rk p) < (if i = y ∨ bt (bfN F N i) y = true then rk i + N else rk i)
    rcases hpr i p he with q | ⟨q1, q2⟩
    · have := a1 p i hp hi q
      have := a2 p hp
      by_cases cp1 : p = y ∨ bt (bfN F N p) y = true
      · have ci : bt (bfN F N i) y = true := by
          rcases cp1 with z | z
          · rw [← z]; exact hX.edge hi hp q
          · exact hX.step hi hp q z
        rw [if_pos cp1, if_pos (Or.inr ci)]
        omega
      · rw [if_neg cp1]
        split <;> omega
    · have := a2 p hp
      rw [q1, q2, if_neg (fun z => z.elim hxy (fun z => by rw [hc.2] at z; cases z)), if_pos (Or.inl rfl)]
      have := a2 x hx
      omega
  · rcases hpr i p hb with q | ⟨-, q⟩
    · exact a3 i hi p q
    · rw [q]; exact hx
  · refine It_cong ?_ ?_ ?_ ?_ (h.1.2 i hi)
    · rw [ptF_o F x y k 1 (by decide) (by decide)]
    · rw [ptF_o F x y k 2 (by decide) (by decide)]
    · rw [ptF_o F x y k 5 (by decide) (by decide)]
    · rw [ptF_o F x y k 9 (by decide) (by decide)]
/-! states -/
theorem Ac.st (h : Ac N F) {F' : Nat → Nat → Int32} (h11 : F' 11 = F 11) (h12 : F' 12 = F 12) : Ac N F' := Ac_cong h (fun i _ => by rw [h11]) (fun i _ => by rw [h12])
theorem Inv.en (h : Inv N F) (i : Nat) {e : Int32} (h0 : 0 ≤ e) (e0 : ¬ e = 0) (e1 : ¬ e = 1) (e2 : ¬ e = 2) : PI N (uF F 5 i e) := by
  refine ⟨h.1.1.st (uF_j _ _ _ _ (by decide)) (uF_j _ _ _ _ (by decide)), fun j hj => ?_⟩
  obtain ⟨v, s0, t, r, g1, g2, g3, g4, g5, g6, g7⟩ := h.1.2 j hj
  by_cases c : j = i
  · subst c
    refine ⟨by rw [uF_j _ _ _ _ (by decide)]; exact v, by rw [uF_s]; exact h0, t, r, g1, g2, g3, by rw [uF_j _ _ _ _ (by decide)]; exact g4, by rw [uF_j _ _ _ _ (by decide)]; exact g5, fun z => ?_, fun z => ?_⟩
    · rw [uF_s] at z; exact absurd z (fun q => q.elim e0 e1)
    · rw [uF_s] at z; exact absurd z e2
  · exact It_cong (uF_i _ _ _ _ c _) (uF_i _ _ _ _ c _) (uF_i _ _ _ _ c _) (uF_i _ _ _ _ c _) (h.1.2 j hj)
theorem Inv.rv (h : Inv N F) (i : Nat) : PI N (uF (uF (uF F 5 i 0) 9 i 0) 10 i (-7)) := by
  have o : ∀ a, a ≠ 5 → a ≠ 9 → a ≠ 10 → uF (uF (uF F 5 i 0) 9 i 0) 10 i (-7) a = F a := fun a a1 a2 a3 => by rw [uF_j _ _ _ _ a3, uF_j _ _ _ _ a2, uF_j _ _ _ _ a1]
  refine ⟨h.1.1.st (o 11 (by decide) (by decide) (by decide)) (o 12 (by decide) (by decide) (by decide)), fun j hj => ?_⟩
  obtain ⟨v, s0, t, r, g1, g2, g3, g4, g5, g6, g7⟩ := h.1.2 j hj
  by_cases c : j = i
  · subst c
    have e5 : uF (uF (uF F 5 j 0) 9 j 0) 10 j (-7) 5 j = 0 := by rw [uF_j _ _ _ _ (by decide), uF_j _ _ _ _ (by decide), uF_s]
    have e9 : uF (uF (uF F 5 j 0) 9 j 0) 10 j (-7) 9 j = nI 0 := by rw [uF_j _ _ _ _ (by decide), uF_s]; rfl
    refine ⟨by rw [o 1 (by decide) (by decide) (by decide)]; exact v, by rw [e5]; decide, t, 0, g1, g2, by omega, by rw [o 2 (by decide) (by decide) (by decide)]; exact g4, e9, fun _ => by omega, fun z => ?_⟩
    rw [e5] at z; exact absurd z (by decide)
  · have oi : ∀ a, uF (uF (uF F 5 i 0) 9 i 0) 10 i (-7) a j = F a j := fun a => by rw [uF_i _ _ _ _ c, uF_i _ _ _ _ c, uF_i _ _ _ _ c]
    exact It_cong (oi 1) (oi 2) (oi 5) (oi 9) (h.1.2 j hj)
theorem cbF_o (S : Nat → Int32) (F : Nat → Nat → Int32) (i : Nat) (p : Int32) : (∀ a, a ≠ 5 → a ≠ 6 → a ≠ 7 → cbF S F i p a = F a) ∧ (∀ a j, j ≠ i → cbF S F i p a j = F a j) ∧ cbF S F i p 5 i = if F 9 i < F 2 i then 1 else 6 := by
  unfold cbF
  by_cases c : F 9 i < F 2 i
  · rw [if_pos c, if_pos c]
    exact ⟨fun a a1 a2 a3 => by rw [uF_j _ _ _ _ a3, uF_j _ _ _ _ a2, uF_j _ _ _ _ a1], fun a j hj => by rw [uF_i _ _ _ _ hj, uF_i _ _ _ _ hj, uF_i _ _ _ _ hj], by rw [uF_j _ _ _ _ (by decide), uF_j _ _ _ _ (by decide), uF_s]⟩
  · rw [if_neg c, if_neg c]
    exact ⟨fun a a1 a2 a3 => uF_j _ _ _ _ a1, fun a j hj => uF_i _ _ _ _ hj _, uF_s _ _ _ _⟩
theorem It_cb (S : Nat → Int32) (i : Nat) (p : Int32) (j : Nat) (h : It F j) : It (cbF S F i p) j := by
  obtain ⟨o1, o2, o3⟩ := cbF_o S F i p
  by_cases c : j = i
  · subst c
    obtain ⟨v, s0, t, r, g1, g2, g3, g4, g5, g6, g7⟩ := h
    unfold It
    rw [o3, o1 1 (by decide) (by decide) (by decide), o1 2 (by decide) (by decide) (by decide), o1 9 (by decide) (by decide) (by decide)]
    refine ⟨v, by split <;> decide, t, r, g1, g2, g3, g4, g5, fun z => ?_, fun z => ?_⟩
    · by_cases q : F 9 j < F 2 j
      · rw [g4, g5] at q
        exact (nI_ltI (by omega) (by omega)).mp q
      · rw [if_neg q] at z; exact absurd z (by decide)
    · by_cases q : F 9 j < F 2 j
      · rw [if_pos q] at z; exact absurd z (by decide)
      · rw [if_neg q] at z; exact absurd z (by decide)
  · exact It_cong (o2 1 j c) (o2 2 j c) (o2 5 j c) (o2 9 j c) h
theorem PI.cb (h : PI N F) (S : Nat → Int32) (i : Nat) (p : Int32) : PI N (cbF S F i p) := ⟨h.1.st ((cbF_o S F i p).1 11 (by decide) (by decide) (by decide)) ((cbF_o S F i p).1 12 (by decide) (by decide) (by decide)), fun j hj => It_cb S i p j (h.2 j hj)⟩
/-! the tick -/
theorem PI.ptk (h : PI N F) (S : Nat → Int32) (k : Nat) : PI N (ptk S F k).1 := by
  induction k with
  | zero => exact h
  | succ k ih =>
    rw [ptk.eq_2]
    split
    · exact ih.cb S k 0
    · exact ih
theorem ptk_0 {S : Nat → Int32} {k : Nat} (h : (ptk S F k).2 = 0) : (ptk S F k).1 = F := by
  induction k with
  | zero => rfl
  | succ k ih =>
    rw [ptk.eq_2] at h ⊢
    by_cases c : (ptk S F k).1 5 k = 2 ∧ (ptk S F k).1 8 k ≤ S 1
    · rw [if_pos c] at h
      have h : (ptk S F k).2 + 1 = 0 := h
      omega
    · rw [if_neg c] at h ⊢
      exact ih h
theorem Inv.tc (h : Inv N F) (S : Nat → Int32) : stt S N 1000 (ptk S F N).1 = true ∧ stl S N 1000 (ptk S F N).1 = tck S N F ∧ Inv N (tck S N F) := by
  have hP := h.1.ptk S N
  unfold tck
  by_cases c : 0 < (ptk S F N).2
  · rw [if_pos c]
    exact ⟨hP.1.stt S, rfl, hP.inv S⟩
  · rw [if_neg c, ptk_0 (show (ptk S F N).2 = 0 by omega)]
    exact ⟨h.1.1.stt S, stl_std h.2 999, h⟩
theorem Inv.tk (h : Inv N F) (S : Nat → Int32) : ∀ k, Inv N (tkK N S F k).2.1 ∧ tkH N S F k := by
  have main : ∀ k, Inv N (tkK N S F k).2.1 := by
    intro k
    induction k with
    | zero => exact h
    | succ k ih => exact (ih.tc _).2.2
  exact fun k => ⟨main k, ((main k).tc _).1, ((main k).tc _).2.1⟩
/-! receive -/
theorem due_cong2 {F F' : Nat → Nat → Int32} {N i : Nat} (h11 : F' 11 i = F 11 i) (h12 : F' 12 i = F 12 i) (h3 : ∀ p, p < N → (3 < F' 5 p ↔ 3 < F 5 p) ∧ (3 ≤ F' 5 p ↔ 3 ≤ F 5 p)) : due F' N i = due F N i := by
  have hp : prd F' i = prd F i := by unfold prd; rw [h11, h12]
  have a1 : anyN (fun p => bt (F' 11 i) p && decide (3 < F' 5 p)) N = anyN (fun p => bt (F 11 i) p && decide (3 < F 5 p)) N := by
    apply anyN_cong
    intro p hpN
    show (bt (F' 11 i) p && decide (3 < F' 5 p)) = (bt (F 11 i) p && decide (3 < F 5 p))
    rw [h11, decide_eq_decide.mpr (h3 p hpN).1]
  have a2 : anyN (fun p => bt (prd F' i) p && !decide (3 ≤ F' 5 p)) N = anyN (fun p => bt (prd F i) p && !decide (3 ≤ F 5 p)) N := by
    apply anyN_cong
    intro p hpN
    show (bt (prd F' i) p && !decide (3 ≤ F' 5 p)) = (bt (prd F i) p && !decide (3 ≤ F 5 p))
    rw [hp, decide_eq_decide.mpr (h3 p hpN).2]
  unfold due
  rw [a1, a2]
theorem Inv.rc (h : Inv N F) (S : Nat → Int32) {b : Nat} (hb : b < N) (h1 : F 5 b = 1) (v : Int32) : Inv N (toF S F b v) := by
  have o : ∀ a, a ≠ 5 → a ≠ 8 → a ≠ 9 → a ≠ 10 → toF S F b v a = F a := fun a a1 a2 a3 a4 => by unfold toF; rw [uF_j _ _ _ _ a4, uF_j _ _ _ _ a3, uF_j _ _ _ _ a2, uF_j _ _ _ _ a1]
  have oi : ∀ a j, j ≠ b → toF S F b v a j = F a j := fun a j c => by unfold toF; rw [uF_i _ _ _ _ c, uF_i _ _ _ _ c, uF_i _ _ _ _ c, uF_i _ _ _ _ c]
  have e5 : toF S F b v 5 b = 2 := by unfold toF; rw [uF_j _ _ _ _ (by decide), uF_j _ _ _ _ (by decide), uF_j _ _ _ _ (by decide), uF_s]
  have e9 : toF S F b v 9 b = F 9 b + 1 := by unfold toF; rw [uF_j _ _ _ _ (by decide), uF_s]
  refine ⟨⟨h.1.1.st (o 11 (by decide) (by decide) (by decide) (by decide)) (o 12 (by decide) (by decide) (by decide) (by decide)), fun j hj => ?_⟩, fun i hi hz => ?_⟩
  · by_cases c : j = b
    · subst c
      obtain ⟨w, s0, t, r, g1, g2, g3, g4, g5, g6, g7⟩ := h.1.2 j hj
      have hr := g6 (Or.inr h1)
      unfold It
      rw [e5, e9, o 1 (by decide) (by decide) (by decide) (by decide), o 2 (by decide) (by decide) (by decide) (by decide)]
      exact ⟨w, by decide, t, r + 1, g1, g2, by omega, g4, by rw [g5]; exact nI_1 r, fun z => absurd z (by decide), fun _ => ⟨by omega, by omega⟩⟩
    · exact It_cong (oi 1 j c) (oi 2 j c) (oi 5 j c) (oi 9 j c) (h.1.2 j hj)
  · by_cases c : i = b
    · rw [c, e5] at hz; exact absurd hz (by decide)
    · rw [oi 5 i c] at hz ⊢
      rw [← h.2 i hi hz]
      refine due_cong2 (by rw [o 11 (by decide) (by decide) (by decide) (by decide)]) (by rw [o 12 (by decide) (by decide) (by decide) (by decide)]) (fun p hp => ?_)
      by_cases cp1 : p = b
      · rw [cp1, e5, h1]; decide
      · rw [oi 5 p cp1]; exact ⟨Iff.rfl, Iff.rfl⟩
/-! add -/
theorem Inv.ap (h : Inv N F) (hN : N < 20) {p k t g d : Int32} (hk : wth k 1 20 = true) (ht : wth t 1 5 = true) : PI (N + 1) (apF F N p k t g d) := by
  obtain ⟨⟨⟨-, ⟨rk, a1, a2⟩, a3⟩, hI⟩, -⟩ := h
  have e : ∀ i, i ≠ N → ∀ q, apF F N p k t g d q i = F q i := fun i hi q => by rw [apF_at, if_neg hi]
  have eN : ∀ q, bt (prd (apF F N p k t g d) N) q = false := by
    intro q
    have v11 : apF F N p k t g d 11 N = 0 := by rw [apF_at, if_pos rfl]; rfl
    have v12 : apF F N p k t g d 12 N = 0 := by rw [apF_at, if_pos rfl]; rfl
    rw [bt_prd, v11, v12, b_0]; rfl
  have hpr : ∀ i q, bt (prd (apF F N p k t g d) i) q = true → i ≠ N ∧ bt (prd F i) q = true := by
    intro i q hb
    by_cases c : i = N
    · rw [c, eN] at hb; cases hb
    · refine ⟨c, ?_⟩
      unfold prd at hb ⊢
      rw [e i c, e i c] at hb
      exact hb
  refine ⟨⟨by omega, ⟨fun i => if i = N then N else rk i, fun q i hq hi hb => ?_, fun i hi => ?_⟩, fun i hi q hb => ?_⟩, fun i hi => ?_⟩
  · obtain ⟨c, hb⟩ := hpr i q hb
    have hq2 := a3 i (by omega) q hb
    show (if q = N then N else rk q) < (if i = N then N else rk i)
    rw [if_neg (by omega), if_neg c]
    exact a1 q i hq2 (by omega) hb
  · show (if i = N then N else rk i) < N + 1
    by_cases c : i = N
    · rw [if_pos c]; omega
    · rw [if_neg c]; have := a2 i (by omega); omega
  · obtain ⟨c, hb⟩ := hpr i q hb
    have := a3 i (by omega) q hb
    omega
  · by_cases c : i = N
    · subst c
      have hk := of_decide_eq_true hk
      have ht := of_decide_eq_true ht
      obtain ⟨w, hw, ew⟩ := nI_of2 (x := k) (M := 20) (n := 20) rfl (fun z => absurd (Int32.lt_of_lt_of_le z (by decide : (0 : Int32) ≤ 1)) (Int32.not_lt.mpr hk.1)) hk.2
      obtain ⟨s, hs, es⟩ := nI_of2 (x := t) (M := 5) (n := 5) rfl (fun z => absurd (Int32.lt_of_lt_of_le z (by decide : (0 : Int32) ≤ 1)) (Int32.not_lt.mpr ht.1)) ht.2
      have w1 : 1 ≤ w := (nI_leI (a := 1) (b := w) (by omega) (by omega)).mp (by rw [← ew]; exact hk.1)
      have s1 : 1 ≤ s := (nI_leI (a := 1) (b := s) (by omega) (by omega)).mp (by rw [← es]; exact ht.1)
      have v : ∀ q, apF F i p k t g d q i = (if q = 0 then p else if q = 1 then k else if q = 2 then t else if q = 3 then g else if q = 4 then d else if q = 5 then 0 else if q = 9 then 0 else if q = 10 then -7 else if q = 11 then 0 else if q = 12 then 0 else F q i) := fun q => by rw [apF_at, if_pos rfl]
      have v5 : apF F i p k t g d 5 i = 0 := v 5
      refine ⟨⟨w, w1, hw, (v 1).trans ew⟩, by rw [v5]; decide, s, 0, s1, hs, by omega, (v 2).trans es, v 9, fun _ => by omega, fun z => ?_⟩
      rw [v5] at z; exact absurd z (by decide)
    · exact It_cong (e i c 1) (e i c 2) (e i c 5) (e i c 9) (hI i (by omega))
theorem Inv.ad (h : Inv N F) (hN : N < 20) (S : Nat → Int32) (p k t g d : Int32) : stl S (N + 1) 1000 (apF F N p k t g d) = uF (uF (uF (apF F N p k t g d) 5 N 1) 6 N (S 1 + d)) 7 N (S 1) := by
  obtain ⟨⟨⟨-, -, a3⟩, hI⟩, hS⟩ := h
  have e : ∀ i, i ≠ N → ∀ q, apF F N p k t g d q i = F q i := fun i hi q => by rw [apF_at, if_neg hi]
  have v : ∀ q, apF F N p k t g d q N = (if q = 0 then p else if q = 1 then k else if q = 2 then t else if q = 3 then g else if q = 4 then d else if q = 5 then 0 else if q = 9 then 0 else if q = 10 then -7 else if q = 11 then 0 else if q = 12 then 0 else F q N) := fun q => by rw [apF_at, if_pos rfl]
  have nb : ∀ i, i < N → bt (prd F i) N = false := by
    intro i hi
    cases hb : bt (prd F i) N with
    | false => rfl
    | true => have := a3 i hi N hb; omega
  -- one more item that nobody waits for
  have dN : ∀ (Z : Nat → Nat → Int32) i, i < N → Z 11 i = F 11 i → Z 12 i = F 12 i → (∀ q, q < N → Z 5 q = F 5 q) → due Z (N + 1) i = due F N i := by
    intro Z i hi h11 h12 h5
    have hp : prd Z i = prd F i := by unfold prd; rw [h11, h12]
    have b11 : bt (F 11 i) N = false := by
      have := nb i hi
      rw [bt_prd, Bool.or_eq_false_iff] at this
      exact this.1
    rw [← due_cong (F := F) (F' := Z) (N := N) h11 h12 (fun q hq _ => h5 q hq)]
    unfold due
    rw [show anyN (fun q => bt (Z 11 i) q && decide (3 < Z 5 q)) (N + 1) = anyN (fun q => bt (Z 11 i) q && decide (3 < Z 5 q)) N by rw [anyN, h11, b11, Bool.false_and, Bool.or_false], show anyN (fun q => bt (prd Z i) q && !decide (3 ≤ Z 5 q)) (N + 1) = anyN (fun q => bt (prd Z i) q && !decide (3 ≤ Z 5 q)) N by rw [anyN, hp, nb i hi, Bool.false_and, Bool.or_false]]
  have d1 : ∀ Z : Nat → Nat → Int32, Z 11 N = 0 → Z 12 N = 0 → due Z (N + 1) N = 1 := by
    intro Z z11 z12
    have zp : prd Z N = 0 := by unfold prd; rw [z11, z12]; rfl
    have n1 : ¬ anyN (fun q => bt (Z 11 N) q && decide (3 < Z 5 q)) (N + 1) = true := by
      intro q
      obtain ⟨i, -, hi⟩ := (anyN_iff _ _).mp q
      have hi : (bt (Z 11 N) i && decide (3 < Z 5 i)) = true := hi
      rw [z11, b_0, Bool.false_and] at hi; cases hi
    have n2 : ¬ anyN (fun q => bt (prd Z N) q && !decide (3 ≤ Z 5 q)) (N + 1) = true := by
      intro q
      obtain ⟨i, -, hi⟩ := (anyN_iff _ _).mp q
      have hi : (bt (prd Z N) i && !decide (3 ≤ Z 5 i)) = true := hi
      rw [zp, b_0, Bool.false_and] at hi; cases hi
    rw [due, if_neg n1, if_neg n2]
  have okA : ∀ i, i < N → ok1 (apF F N p k t g d) (N + 1) i := by
    intro i hi hz
    rw [e i (by omega)] at hz ⊢
    rw [← hS i hi hz]
    exact dN _ i hi (e i (by omega) 11) (e i (by omega) 12) (fun q hq => e q (by omega) 5)
  have pN : ∀ j, j ≤ N → pas S (N + 1) (apF F N p k t g d) j = (apF F N p k t g d, false) := by
    intro j
    induction j with
    | zero => intro _; rfl
    | succ j ih =>
      intro hj
      show ((si S (N + 1) (pas S (N + 1) (apF F N p k t g d) j).1 j).1, (pas S (N + 1) (apF F N p k t g d) j).2 || (si S (N + 1) (pas S (N + 1) (apF F N p k t g d) j).1 j).2) = _
      rw [ih (by omega)]
      show ((si S (N + 1) (apF F N p k t g d) j).1, false || (si S (N + 1) (apF F N p k t g d) j).2) = _
      rw [si_ok (okA j (by omega))]
      rfl
  have v5 : apF F N p k t g d 5 N = 0 := v 5
  have v4 : apF F N p k t g d 4 N = d := v 4
  have dA := d1 (apF F N p k t g d) (v 11) (v 12)
  have hsi : si S (N + 1) (apF F N p k t g d) N = (uF (uF (uF (apF F N p k t g d) 5 N 1) 6 N (S 1 + d)) 7 N (S 1), true) := by
    rw [si, if_pos (Or.inl v5), if_neg (by rw [dA, v5]; decide), if_pos dA, v4]
  have hp1 : pas S (N + 1) (apF F N p k t g d) (N + 1) = (uF (uF (uF (apF F N p k t g d) 5 N 1) 6 N (S 1 + d)) 7 N (S 1), true) := by
    show ((si S (N + 1) (pas S (N + 1) (apF F N p k t g d) N).1 N).1, (pas S (N + 1) (apF F N p k t g d) N).2 || (si S (N + 1) (pas S (N + 1) (apF F N p k t g d) N).1 N).2) = _
    rw [pN N (Nat.le_refl N)]
    show ((si S (N + 1) (apF F N p k t g d) N).1, false || (si S (N + 1) (apF F N p k t g d) N).2) = _
    rw [hsi]
    rfl
  have hst : Std (N + 1) (uF (uF (uF (apF F N p k t g d) 5 N 1) 6 N (S 1 + d)) 7 N (S 1)) := by
    have f11 : uF (uF (uF (apF F N p k t g d) 5 N 1) 6 N (S 1 + d)) 7 N (S 1) 11 = apF F N p k t g d 11 := by rw [uF_j _ _ _ _ (by decide), uF_j _ _ _ _ (by decide), uF_j _ _ _ _ (by decide)]
    have f12 : uF (uF (uF (apF F N p k t g d) 5 N 1) 6 N (S 1 + d)) 7 N (S 1) 12 = apF F N p k t g d 12 := by rw [uF_j _ _ _ _ (by decide), uF_j _ _ _ _ (by decide), uF_j _ _ _ _ (by decide)]
    have f5 : ∀ i, i ≠ N → uF (uF (uF (apF F N p k t g d) 5 N 1) 6 N (S 1 + d)) 7 N (S 1) 5 i = F 5 i := fun i hi => by rw [uF_i _ _ _ _ hi, uF_i _ _ _ _ hi, uF_i _ _ _ _ hi, e i hi]
    have f5N : uF (uF (uF (apF F N p k t g d) 5 N 1) 6 N (S 1 + d)) 7 N (S 1) 5 N = 1 := by rw [uF_j _ _ _ _ (by decide), uF_j _ _ _ _ (by decide), uF_s]
    generalize uF (uF (uF (apF F N p k t g d) 5 N 1) 6 N (S 1 + d)) 7 N (S 1) = Z at f11 f12 f5 f5N
    intro i hi hz
    by_cases c : i = N
    · rw [c, f5N]
      exact d1 Z (by rw [f11]; exact v 11) (by rw [f12]; exact v 12)
    · rw [f5 i c] at hz ⊢
      rw [← hS i (by omega) hz]
      exact dN Z i (by omega) (by rw [f11]; exact e i c 11) (by rw [f12]; exact e i c 12) (fun q hq => f5 q (by omega))
  rw [stl, hp1]
  show (if true = true then stl S (N + 1) 999 (uF (uF (uF (apF F N p k t g d) 5 N 1) 6 N (S 1 + d)) 7 N (S 1)) else _) = _
  rw [if_pos rfl]
  exact stl_std hst 998
/-! load -/
theorem RD.pi {N : Nat} {F : Nat → Nat → Int32} (hN : N ≤ 20) (h : RD N F) : PI N F := by
  refine ⟨⟨hN, ⟨fun i => i, fun p i hp hi hb => ?_, fun i hi => hi⟩, fun i hi p hb => ?_⟩, fun i hi => ?_⟩
  · exact (h i hi).2.2.2.2.2.2.2.2 p hb
  · have := (h i hi).2.2.2.2.2.2.2.2 p hb; omega
  · obtain ⟨-, v, f2, -, -, f5, f9, -, -⟩ := h i hi
    refine ⟨v, by rw [f5]; decide, 3, 0, by omega, by omega, by omega, f2, f9, fun _ => by omega, fun z => ?_⟩
    rw [f5] at z; exact absurd z (by decide)
end
