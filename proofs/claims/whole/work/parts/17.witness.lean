/-! Witness -/
abbrev wob (B o : Nat) (l : Int32) : AE := ob 7 [.int l, .ref (B + (o + 1)), .ref (B + (o + 2))]
/-- the first place from d on, at most m further, that is such -/
def fdF (P : Nat → Bool) : Nat → Nat → Nat
  | 0, d => d
  | m + 1, d => if P d = true then d else fdF P m (d + 1)
theorem fdF_le (P : Nat → Bool) (m d : Nat) : d ≤ fdF P m d ∧ fdF P m d ≤ d + m := by
  induction m generalizing d with
  | zero => exact ⟨Nat.le_refl _, Nat.le_refl _⟩
  | succ m ih =>
    unfold fdF
    split
    next => omega
    next => have := ih (d + 1); omega
theorem fdF_no (P : Nat → Bool) (m d : Nat) : ∀ j, d ≤ j → j < fdF P m d → P j = false := by
  induction m generalizing d with
  | zero => intro j h1 h2; unfold fdF at h2; omega
  | succ m ih =>
    intro j h1 h2
    unfold fdF at h2
    split at h2
    next => omega
    next hp =>
      by_cases e : j = d
      · subst e; simpa using hp
      · exact ih (d + 1) j (by omega) h2
theorem fdF_yes (P : Nat → Bool) (m d : Nat) (h : fdF P m d < d + m) : P (fdF P m d) = true := by
  induction m generalizing d with
  | zero => unfold fdF at h; omega
  | succ m ih =>
    unfold fdF at h ⊢
    split
    next hp => exact hp
    next hp => rw [if_neg hp] at h; exact ih (d + 1) (by omega)
theorem fdF_at {P : Nat → Bool} {m d : Nat} (h : ∃ j, d ≤ j ∧ j < d + m ∧ P j = true) : fdF P m d < d + m := by
  obtain ⟨j, h1, h2, h3⟩ := h
  rcases Nat.lt_or_ge j (fdF P m d) with q | q
  · rw [fdF_no P m d j h1 q] at h3; cases h3
  · omega
def poK (F : Nat → Nat → Int32) (s : Int32) : Nat → Int32
  | 0 => 0
  | k + 1 => if bt s k = true then poK F s k ||| prd F k else poK F s k
def rg (F : Nat → Nat → Int32) (N l : Nat) : Nat → Int32
  | 0 => bit l
  | d + 1 => poK F (rg F N l d) N
set_option maxHeartbeats 4000000 in
set_option maxRecDepth 100000 in
 theorem c_predecessorsOfAll {G : GC} {B n : Nat} {h : HT} {q N : Nat} {S : Nat → Int32} {F : Nat → Nat → Int32} (hN : N ≤ 20) (s : Int32) : CtJ G B M7_predecessorsOfAll [.ref (B + q), .int s] n (wQ B q N S F h) 0 0 (eqP (some (.int (poK F s N))) n (wQ B q N S F h)) := by
  unfold CtJ
  refine jj_lv (lv' := [some (.ref (B + q)), some (.int s), none, none]) rfl ?_
  refine jj_s (pc' := 1) rfl rfl ?_
  refine jj_s (pc' := 2) rfl rfl ?_
  refine jj_s (pc' := 3) rfl rfl ?_
  refine jj_s (pc' := 4) rfl rfl ?_
  have L : ∀ d k, k ≤ N → N + 1 ≤ k + d → JJ X0 G B M7_predecessorsOfAll 4 [some (.ref (B + q)), some (.int s), some (.int (poK F s k)), some (.int (nI k))] [] n (wQ B q N S F h) 0 0 (eqP (some (.int (poK F s N))) n (wQ B q N S F h)) := by
    intro d
    induction d with
    | zero => intro k h1 h2; exact absurd h2 (by omega)
    | succ d ih =>
      intro k h1 h2
      refine jj_s (pc' := 5) rfl rfl ?_
      refine jj_s (pc' := 6) rfl rfl ?_
      refine jj_g rfl rfl wQ_o rfl ?_
      refine jj_geN 34 rfl rfl (by omega) (by omega) (fun c => ?_) (fun c => ?_)
      · refine jj_s (pc' := 35) rfl rfl ?_
        exact jj_iret rfl rfl ⟨by rw [show k = N by omega], rfl, rfl⟩
      · refine jj_s (pc' := 13) rfl rfl ?_
        refine jj_s (pc' := 14) rfl rfl ?_
        refine jj_t2 rfl rfl rfl rfl rfl (c_has (by omega)) ?_
        refine jj_zT 28 rfl rfl (fun c2 => ?_) (fun c2 => ?_)
        · first | refine jj_inc rfl rfl ?_ | refine jj_s (pc' := 31) rfl rfl ?_
          refine jj_s (pc' := 4) rfl rfl ?_
          refine jj_lv ?_ (ih (k + 1) (by omega) (by omega))
          simp [poK, c2]
        · refine jj_s (pc' := 21) rfl rfl ?_
          refine jj_s (pc' := 22) rfl rfl ?_
          refine jj_s (pc' := 23) rfl rfl ?_
          refine jj_v1 rfl rfl rfl wQ_o rfl rfl (c_predecessors (by omega)) ?_
          refine jj_s (pc' := 27) rfl rfl ?_
          refine jj_s (pc' := 28) rfl rfl ?_
          first | refine jj_inc rfl rfl ?_ | refine jj_s (pc' := 31) rfl rfl ?_
          refine jj_s (pc' := 4) rfl rfl ?_
          refine jj_lv ?_ (ih (k + 1) (by omega) (by omega))
          simp [poK, c2]
  exact L (N + 1) 0 (by omega) (by omega)
/-- the lowest successor among the allowed; N: none -/
def lsc (F : Nat → Nat → Int32) (N t : Nat) (al : Int32) : Nat := fdF (fun j => bt al j && bt (prd F j) t) N 0
set_option maxHeartbeats 4000000 in
set_option maxRecDepth 100000 in
 theorem c_lowestSuccessor {G : GC} {B n : Nat} {h : HT} {q N : Nat} {S : Nat → Int32} {F : Nat → Nat → Int32} (hN : N ≤ 20) {t : Nat} (ht : t < 20) (al : Int32) (hf : lsc F N t al < N) : CtJ G B M7_lowestSuccessor [.ref (B + q), .int (nI t), .int al] n (wQ B q N S F h) 0 0 (eqP (some (.int (nI (lsc F N t al)))) n (wQ B q N S F h)) := by
  unfold CtJ
  refine jj_lv (lv' := [some (.ref (B + q)), some (.int (nI t)), some (.int al), none]) rfl ?_
  refine jj_s (pc' := 1) rfl rfl ?_
  refine jj_s (pc' := 2) rfl rfl ?_
  have L : ∀ d k, k + d = N → lsc F N t al = fdF (fun j => bt al j && bt (prd F j) t) d k → JJ X0 G B M7_lowestSuccessor 2 [some (.ref (B + q)), some (.int (nI t)), some (.int al), some (.int (nI k))] [] n (wQ B q N S F h) 0 0 (eqP (some (.int (nI (lsc F N t al)))) n (wQ B q N S F h)) := by
    intro d
    induction d with
    | zero => intro k h1 h2; unfold fdF at h2; omega
    | succ d ih =>
      intro k h1 h2
      refine jj_s (pc' := 3) rfl rfl ?_
      refine jj_s (pc' := 4) rfl rfl ?_
      refine jj_g rfl rfl wQ_o rfl ?_
      refine jj_geN 38 rfl rfl (by omega) (by omega) (fun c => absurd c (by omega)) (fun c => ?_)
      refine jj_s (pc' := 11) rfl rfl ?_
      refine jj_s (pc' := 12) rfl rfl ?_
      refine jj_t2 rfl rfl rfl rfl rfl (c_has (by omega)) ?_
      refine jj_zT 32 rfl rfl (fun c2 => ?_) (fun c2 => ?_)
      · first | refine jj_inc rfl rfl ?_ | refine jj_s (pc' := 35) rfl rfl ?_
        refine jj_s (pc' := 2) rfl rfl ?_
        exact ih (k + 1) (by omega) (by rw [h2, fdF, if_neg (by simp [c2])])
      · refine jj_s (pc' := 19) rfl rfl ?_
        refine jj_s (pc' := 20) rfl rfl ?_
        refine jj_v1 rfl rfl rfl wQ_o rfl rfl (c_predecessors (by omega)) ?_
        refine jj_s (pc' := 24) rfl rfl ?_
        refine jj_t2 rfl rfl rfl rfl rfl (c_has (by omega)) ?_
        refine jj_zT 32 rfl rfl (fun c3 => ?_) (fun c3 => ?_)
        · first | refine jj_inc rfl rfl ?_ | refine jj_s (pc' := 35) rfl rfl ?_
          refine jj_s (pc' := 2) rfl rfl ?_
          exact ih (k + 1) (by omega) (by rw [h2, fdF, if_neg (by simp [c3])])
        · refine jj_s (pc' := 31) rfl rfl ?_
          exact jj_iret rfl rfl ⟨by rw [h2, fdF, if_pos (by simp [c2, c3])], rfl, rfl⟩
  exact L N 0 (by omega) rfl
/-- the rings as they are laid -/
def rgP (F : Nat → Nat → Int32) (N l : Nat) (P : Nat → Nat → Int32) : Nat → (Nat → Nat → Int32)
  | 0 => uF P 1 0 (bit l)
  | d + 1 => uF (rgP F N l P d) 1 (d + 1) (rg F N l (d + 1))
theorem rgP_at (F : Nat → Nat → Int32) (N l : Nat) (P : Nat → Nat → Int32) (d : Nat) : ∀ j, j ≤ d → rgP F N l P d 1 j = rg F N l j := by
  induction d with
  | zero => intro j hj; rw [show j = 0 by omega]; exact uF_s _ _ _ _
  | succ d ih =>
    intro j hj
    unfold rgP
    by_cases e : j = d + 1
    · subst e; exact uF_s _ _ _ _
    · rw [uF_i _ _ _ _ e]; exact ih j (by omega)
def dsW (F : Nat → Nat → Int32) (N f l : Nat) : Nat := fdF (fun d => bt (rg F N l d) f) 19 0
set_option maxHeartbeats 4000000 in
set_option maxRecDepth 100000 in
 theorem c_drawRings {G : GC} {B n : Nat} {h : HT} {q N : Nat} {S : Nat → Int32} {F : Nat → Nat → Int32} {o : Nat} {P : Nat → Nat → Int32} {len : Int32} (hN : N ≤ 20) (ha : o + 3 ≤ q ∨ q + 14 ≤ o) {f l : Nat} (hf : f < 20) (hl : l < 20) : CtJ G B M7_drawRings [.ref (B + o), .ref (B + q), .int (nI f), .int (nI l)] n (wQ B q N S F (wA o 2 (wob B o len) P h)) 0 0 (eqP (some (.int (nI (dsW F N f l)))) n (wQ B q N S F (wA o 2 (wob B o len) (rgP F N l P (dsW F N f l)) h))) := by
  have oP : ∀ P, wQ B q N S F (wA o 2 (wob B o len) P h) o = some (wob B o len) := fun P => wQA_o ha
  unfold CtJ
  refine jj_lv (lv' := [some (.ref (B + o)), some (.ref (B + q)), some (.int (nI f)), some (.int (nI l)), none]) rfl ?_
  refine jj_s (pc' := 1) rfl rfl ?_
  refine jj_g rfl rfl (oP _) rfl ?_
  refine jj_s (pc' := 5) rfl rfl ?_
  refine jj_s (pc' := 6) rfl rfl ?_
  refine jj_s (pc' := 7) rfl rfl ?_
  refine jj_s (pc' := 8) rfl rfl ?_
  refine jj_ast2 (i := 0) rfl (by decide) (by omega) ha ?_
  refine jj_s (pc' := 10) rfl rfl ?_
  refine jj_s (pc' := 12) rfl rfl ?_
  have L : ∀ m d, d + m = 19 → dsW F N f l = fdF (fun d => bt (rg F N l d) f) m d → JJ X0 G B M7_drawRings 12 [some (.ref (B + o)), some (.ref (B + q)), some (.int (nI f)), some (.int (nI l)), some (.int (nI d))] [] n (wQ B q N S F (wA o 2 (wob B o len) (rgP F N l P d) h)) 0 0 (eqP (some (.int (nI (dsW F N f l)))) n (wQ B q N S F (wA o 2 (wob B o len) (rgP F N l P (dsW F N f l)) h))) := by
    intro m
    induction m with
    | zero =>
      intro d h1 h2
      have hd : d = 19 := by omega
      subst hd
      have e : dsW F N f l = 19 := h2
      refine jj_s (pc' := 14) rfl rfl ?_
      refine jj_s (pc' := 16) rfl rfl ?_
      refine jj_icmp_ge 59 rfl rfl (fun c => ?_) (fun c => absurd (by decide) c)
      refine jj_s (pc' := 61) rfl rfl ?_
      exact jj_iret rfl rfl ⟨by rw [e], rfl, by rw [e]⟩
    | succ m ih =>
      intro d h1 h2
      refine jj_s (pc' := 14) rfl rfl ?_
      refine jj_s (pc' := 16) rfl rfl ?_
      refine jj_geN (b := 19) 59 rfl rfl (by omega) (by omega) (fun c => absurd c (by omega)) (fun c => ?_)
      refine jj_s (pc' := 20) rfl rfl ?_
      refine jj_g rfl rfl (oP _) rfl ?_
      refine jj_s (pc' := 25) rfl rfl ?_
      refine jj_ald2 rfl (by decide) (by first | assumption | omega) (by first | assumption | omega) ?_
      refine jj_s (pc' := 27) rfl rfl ?_
      rw [rgP_at F N l P d d (Nat.le_refl _)]
      refine jj_t2 rfl rfl rfl rfl rfl (c_has (by omega)) ?_
      refine jj_zF 59 rfl rfl (fun c2 => ?_) (fun c2 => ?_)
      · refine jj_s (pc' := 61) rfl rfl ?_
        have e : dsW F N f l = d := by rw [h2, fdF, if_pos c2]
        exact jj_iret rfl rfl ⟨by rw [e], rfl, by rw [e]⟩
      · refine jj_s (pc' := 34) rfl rfl ?_
        refine jj_g rfl rfl (oP _) rfl ?_
        refine jj_s (pc' := 39) rfl rfl ?_
        refine jj_s (pc' := 40) rfl rfl ?_
        refine jj_s (pc' := 41) rfl rfl ?_
        refine jj_s (pc' := 42) rfl rfl ?_
        refine jj_s (pc' := 43) rfl rfl ?_
        refine jj_g rfl rfl (oP _) rfl ?_
        refine jj_s (pc' := 48) rfl rfl ?_
        refine jj_ald2 rfl (by decide) (by first | assumption | omega) (by first | assumption | omega) ?_
        rw [rgP_at F N l P d d (Nat.le_refl _)]
        refine jj_t2 rfl rfl rfl rfl rfl (c_predecessorsOfAll hN _) ?_
        refine jj_st (by rw [show nI d + Int32.ofInt 1 = nI (d + 1) from nI_1 d]) ?_
        refine jj_ast2 rfl (by decide) (by omega) ha ?_
        first | refine jj_inc rfl rfl ?_ | refine jj_s (pc' := 56) rfl rfl ?_
        refine jj_s (pc' := 12) rfl rfl ?_
        exact ih (d + 1) (by omega) (by rw [h2, fdF, if_neg (by rw [c2]; decide)])
  exact L 19 0 (by omega) rfl
/-- the path -/
def ptW (F : Nat → Nat → Int32) (N f l D : Nat) : Nat → Nat
  | 0 => f
  | i + 1 => lsc F N (ptW F N f l D i) (rg F N l (D - (i + 1)))
def ptP (F : Nat → Nat → Int32) (N f l D : Nat) (P : Nat → Nat → Int32) : Nat → (Nat → Nat → Int32)
  | 0 => uF P 0 0 (nI f)
  | i + 1 => uF (ptP F N f l D P i) 0 (i + 1) (nI (ptW F N f l D (i + 1)))
theorem ptP_at (F : Nat → Nat → Int32) (N f l D : Nat) (P : Nat → Nat → Int32) (d : Nat) : (∀ j, j ≤ d → ptP F N f l D P d 0 j = nI (ptW F N f l D j)) ∧ ptP F N f l D P d 1 = P 1 := by
  induction d with
  | zero => exact ⟨fun j hj => by rw [show j = 0 by omega]; exact uF_s _ _ _ _, uF_j _ _ _ _ (by decide)⟩
  | succ d ih =>
    refine ⟨fun j hj => ?_, ?_⟩
    · unfold ptP
      by_cases e : j = d + 1
      · subst e; exact uF_s _ _ _ _
      · rw [uF_i _ _ _ _ e]; exact ih.1 j (by omega)
    · unfold ptP
      rw [uF_j _ _ _ _ (by decide)]; exact ih.2
theorem bt_poK (F : Nat → Nat → Int32) (s : Int32) (k i : Nat) : bt (poK F s k) i = anyN (fun j => bt s j && bt (prd F j) i) k := by
  induction k with
  | zero => exact b_0 i
  | succ k ih =>
    unfold poK anyN
    split
    next hb => rw [b_or, ih, hb, Bool.true_and]
    next hb => rw [ih]; simp at hb; simp [hb]
/-- on the way there is always a next one -/
theorem ptW_ok {F : Nat → Nat → Int32} {N f l D : Nat} (hf : f < N) (hD : bt (rg F N l D) f = true) : ∀ i, i ≤ D → ptW F N f l D i < N ∧ bt (rg F N l (D - i)) (ptW F N f l D i) = true ∧ (i < D → lsc F N (ptW F N f l D i) (rg F N l (D - (i + 1))) < N) := by
  intro i
  have step : ∀ i, i < D → bt (rg F N l (D - i)) (ptW F N f l D i) = true → lsc F N (ptW F N f l D i) (rg F N l (D - (i + 1))) < N := by
    intro i hi hb
    rw [show D - i = (D - (i + 1)) + 1 by omega] at hb
    unfold rg at hb
    rw [bt_poK] at hb
    obtain ⟨j, h1, h2⟩ := (anyN_iff _ _).mp hb
    have := fdF_at (P := fun j => bt (rg F N l (D - (i + 1))) j && bt (prd F j) (ptW F N f l D i)) (m := N) (d := 0) ⟨j, by omega, by omega, h2⟩
    simpa [lsc] using this
  induction i with
  | zero => intro _; exact ⟨hf, hD, fun h => step 0 h hD⟩
  | succ i ih =>
    intro hi
    obtain ⟨h1, h2, h3⟩ := ih (by omega)
    have h3 := h3 (by omega)
    have h4 := fdF_yes (fun j => bt (rg F N l (D - (i + 1))) j && bt (prd F j) (ptW F N f l D i)) N 0 (by simpa [lsc] using h3)
    have h5 : bt (rg F N l (D - (i + 1))) (ptW F N f l D (i + 1)) = true := by
      simp only [Bool.and_eq_true] at h4
      exact h4.1
    exact ⟨h3, h5, fun h => step (i + 1) h h5⟩
set_option maxHeartbeats 4000000 in
set_option maxRecDepth 100000 in
 theorem c_remember {G : GC} {B n : Nat} {h : HT} {q N : Nat} {S : Nat → Int32} {F : Nat → Nat → Int32} {o : Nat} {P : Nat → Nat → Int32} {len : Int32} (hN : N ≤ 20) (ha : o + 3 ≤ q ∨ q + 14 ≤ o) {f l : Nat} (hf : f < N) (hl : l < N) (hD : bt (rg F N l (dsW F N f l)) f = true) : CtJ G B M7_remember [.ref (B + o), .ref (B + q), .int (nI f), .int (nI l)] n (wQ B q N S F (wA o 2 (wob B o len) P h)) 0 0 (eqP none n (wQ B q N S F (wA o 2 (wob B o (nI (dsW F N f l + 1))) (ptP F N f l (dsW F N f l) (rgP F N l P (dsW F N f l)) (dsW F N f l)) h))) := by
  have oP : ∀ P len, wQ B q N S F (wA o 2 (wob B o len) P h) o = some (wob B o len) := fun P len => wQA_o ha
  have hDl : dsW F N f l ≤ 19 := by have := (fdF_le (fun d => bt (rg F N l d) f) 19 0).2; unfold dsW; omega
  unfold CtJ
  refine jj_lv (lv' := [some (.ref (B + o)), some (.ref (B + q)), some (.int (nI f)), some (.int (nI l)), none, none]) rfl ?_
  refine jj_s (pc' := 1) rfl rfl ?_
  refine jj_s (pc' := 2) rfl rfl ?_
  refine jj_s (pc' := 3) rfl rfl ?_
  refine jj_s (pc' := 4) rfl rfl ?_
  refine jj_v3 rfl rfl rfl (oP _ _) rfl rfl (c_drawRings hN ha (by omega) (by omega)) ?_
  generalize hDe : dsW F N f l = D at hD hDl ⊢
  refine jj_s (pc' := 9) rfl rfl ?_
  refine jj_s (pc' := 10) rfl rfl ?_
  refine jj_g rfl rfl (oP _ _) rfl ?_
  refine jj_s (pc' := 14) rfl rfl ?_
  refine jj_s (pc' := 15) rfl rfl ?_
  refine jj_ast2 (i := 0) rfl (by decide) (by omega) ha ?_
  refine jj_s (pc' := 17) rfl rfl ?_
  refine jj_s (pc' := 19) rfl rfl ?_
  refine jj_s (pc' := 20) rfl rfl ?_
  refine jj_s (pc' := 21) rfl rfl ?_
  refine jj_p rfl rfl rfl rfl (oP _ _) rfl ?_
  refine jj_h (h' := wQ B q N S F (wA o 2 (wob B o (nI (D + 1))) (ptP F N f l D (rgP F N l P D) 0) h)) ((wQ_hu (by omega)).trans (by rw [wA_obj, ← nI_1]; rfl)) ?_
  refine jj_s (pc' := 25) rfl rfl ?_
  refine jj_s (pc' := 27) rfl rfl ?_
  have L : ∀ m i, i ≤ D → D + 1 ≤ i + m → JJ X0 G B M7_remember 27 [some (.ref (B + o)), some (.ref (B + q)), some (.int (nI f)), some (.int (nI l)), some (.int (nI D)), some (.int (nI (i + 1)))] [] n (wQ B q N S F (wA o 2 (wob B o (nI (D + 1))) (ptP F N f l D (rgP F N l P D) i) h)) 0 0 (eqP none n (wQ B q N S F (wA o 2 (wob B o (nI (D + 1))) (ptP F N f l D (rgP F N l P D) D) h))) := by
    intro m
    induction m with
    | zero => intro i h1 h2; exact absurd h2 (by omega)
    | succ m ih =>
      intro i h1 h2
      refine jj_s (pc' := 29) rfl rfl ?_
      refine jj_s (pc' := 31) rfl rfl ?_
      refine jj_icmp_gt 70 rfl rfl (fun c => ?_) (fun c => ?_)
      · have c := (nI_ltI (a := D) (b := i + 1) (by omega) (by omega)).mp c
        exact jj_vret rfl rfl ⟨rfl, rfl, by rw [show i = D by omega]⟩
      · have hi : i < D := by
          rcases Nat.lt_or_ge i D with q | q
          · exact q
          · exact absurd ((nI_ltI (a := D) (b := i + 1) (by omega) (by omega)).mpr (by omega)) c
        obtain ⟨w1, w2, w3⟩ := ptW_ok (l := l) hf hD i (by omega)
        refine jj_s (pc' := 35) rfl rfl ?_
        refine jj_g rfl rfl (oP _ _) rfl ?_
        refine jj_s (pc' := 40) rfl rfl ?_
        refine jj_s (pc' := 41) rfl rfl ?_
        refine jj_s (pc' := 42) rfl rfl ?_
        refine jj_g rfl rfl (oP _ _) rfl ?_
        refine jj_s (pc' := 47) rfl rfl ?_
        refine jj_s (pc' := 48) rfl rfl ?_
        refine jj_s (pc' := 49) rfl rfl ?_
        refine jj_st (by rw [show nI (i + 1) - Int32.ofInt 1 = nI i from nI_pred i]) ?_
        refine jj_ald2 rfl (by decide) (by omega) ha ?_
        rw [(ptP_at F N f l D (rgP F N l P D) i).1 i (Nat.le_refl _)]
        refine jj_s (pc' := 51) rfl rfl ?_
        refine jj_g rfl rfl (oP _ _) rfl ?_
        refine jj_s (pc' := 56) rfl rfl ?_
        refine jj_s (pc' := 58) rfl rfl ?_
        refine jj_s (pc' := 59) rfl rfl ?_
        refine jj_st (by rw [pk_sub (show i + 1 ≤ D by omega)]) ?_
        refine jj_ald2 rfl (by decide) (by omega) ha ?_
        rw [(ptP_at F N f l D (rgP F N l P D) i).2, rgP_at F N l P D _ (by omega)]
        refine jj_t3 rfl rfl rfl rfl rfl (c_lowestSuccessor hN (by omega) _ (w3 hi)) ?_
        refine jj_ast2 rfl (by decide) (by omega) ha ?_
        first | refine jj_inc rfl rfl ?_ | refine jj_s (pc' := 67) rfl rfl ?_
        refine jj_s (pc' := 27) rfl rfl ?_
        exact ih (i + 1) (by omega) (by omega)
  exact L (D + 1) 0 (by omega) (by omega)
set_option maxHeartbeats 4000000 in
set_option maxRecDepth 100000 in
 theorem c_forget {G : GC} {B n : Nat} {h : HT} {o : Nat} {P : Nat → Nat → Int32} {len : Int32} : CtJ G B M7_forget [.ref (B + o)] n (wA o 2 (wob B o len) P h) 0 0 (eqP none n (wA o 2 (wob B o 0) P h)) := by
  unfold CtJ
  refine jj_lv (lv' := [some (.ref (B + o))]) rfl ?_
  refine jj_s (pc' := 1) rfl rfl ?_
  refine jj_s (pc' := 2) rfl rfl ?_
  refine jj_p rfl rfl rfl rfl wA_o rfl ?_
  refine jj_h (h' := wA o 2 (wob B o 0) P h) wA_obj ?_
  exact jj_vret rfl rfl ⟨rfl, rfl, rfl⟩
