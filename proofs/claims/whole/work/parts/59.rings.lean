/-! paths to an item: rings, steps -/
section
variable {F : Nat → Nat → Int32} {N : Nat} {rk : Nat → Nat} {l : Nat}
theorem rg_s {d a : Nat} : bt (rg F N l (d + 1)) a = true ↔ ∃ b, b < N ∧ bt (rg F N l d) b = true ∧ bt (prd F b) a = true := by
  show bt (poK F (rg F N l d) N) a = true ↔ _
  rw [bt_poK, anyN_iff]
  constructor
  · rintro ⟨b, h1, h2⟩
    have h2 : (bt (rg F N l d) b && bt (prd F b) a) = true := h2
    rw [Bool.and_eq_true] at h2
    exact ⟨b, h1, h2.1, h2.2⟩
  · rintro ⟨b, h1, h2, h3⟩
    refine ⟨b, h1, ?_⟩
    show (bt (rg F N l d) b && bt (prd F b) a) = true
    rw [h2, h3]; rfl
theorem rg_0 (hl : l < 32) {a : Nat} : bt (rg F N l 0) a = true ↔ a = l := by
  show bt (bit l) a = true ↔ _
  rw [bt_bit hl, decide_eq_true_eq]
theorem rg_rk (hN : N ≤ 20) (hr : Up (edg F) N rk) (hB : ∀ i, i < N → ∀ p, bt (prd F i) p = true → p < N) (hl : l < N) : ∀ d a, bt (rg F N l d) a = true → a < N ∧ rk a + d ≤ rk l := by
  intro d
  induction d with
  | zero => intro a ha; rw [(rg_0 (by omega)).mp ha]; exact ⟨hl, Nat.le_refl _⟩
  | succ d ih =>
    intro a ha
    obtain ⟨b, h1, h2, h3⟩ := rg_s.mp ha
    obtain ⟨-, h4⟩ := ih b h2
    have h5 := hB b h1 a h3
    have h6 := hr a b h5 h1 h3
    exact ⟨h5, by omega⟩
/-- so many steps: the fewest; 99: none lead there -/
def DS (F : Nat → Nat → Int32) (N l : Nat) (s : Nat → Nat) : Prop := (∀ i, i < N → s i = 99 ∨ bt (rg F N l (s i)) i = true) ∧ ∀ i, i < N → ∀ d, bt (rg F N l d) i = true → s i ≤ d
def nu (s : Nat → Nat) (a v : Nat) : Nat → Nat := fun i => if i = a then v else s i
theorem nu_s (s : Nat → Nat) (a v : Nat) : nu s a v a = v := if_pos rfl
theorem nu_n (s : Nat → Nat) (a v : Nat) {i : Nat} (h : i ≠ a) : nu s a v i = s i := if_neg h
def MJ (F : Nat → Nat → Int32) (N l r a b : Nat) (s : Nat → Nat) : Prop := (∀ i, s i ≤ 99) ∧ (∀ i, i < N → s i = 99 ∨ bt (rg F N l (s i)) i = true) ∧ (∀ i, i < N → ∀ d, d ≤ r → bt (rg F N l d) i = true → s i ≤ d) ∧ (∀ i, i < a → bt (rg F N l (r + 1)) i = true → s i ≤ r + 1) ∧ ∀ j, j < b → bt (rg F N l r) j = true → bt (prd F j) a = true → s a ≤ r + 1
theorem MJ.start (hl : l < 32) : MJ F N l 0 0 0 (fun i => if i = l then 0 else 99) := by
  refine ⟨fun i => ?_, fun i _ => ?_, fun i _ d hd hb => ?_, fun i hi => absurd hi (by omega), fun j hj => absurd hj (by omega)⟩
  · dsimp only
    split <;> omega
  · by_cases e : i = l
    · right
      show bt (rg F N l (if i = l then 0 else 99)) i = true
      rw [if_pos e]
      exact (rg_0 hl).mpr e
    · left; exact if_neg e
  · have hd : d = 0 := by omega
    subst hd
    show (if i = l then 0 else 99) ≤ 0
    rw [if_pos ((rg_0 hl).mp hb)]
    omega
theorem MJ.keep {r a b : Nat} {s : Nat → Nat} (h : MJ F N l r a b s) (hb : b < N) (hn : bt (prd F b) a = true → s a ≤ s b + 1) : MJ F N l r a (b + 1) s := by
  obtain ⟨h1, h2, h3, h4, h5⟩ := h
  refine ⟨h1, h2, h3, h4, fun j hj g1 g2 => ?_⟩
  by_cases e : j = b
  · subst e
    have := h3 j hb r (by omega) g1
    have := hn g2
    omega
  · exact h5 j (by omega) g1 g2
theorem MJ.put {r a b : Nat} {s : Nat → Nat} (h : MJ F N l r a b s) (ha : a < N) (hb : b < N) (he : bt (prd F b) a = true) (hlt : s b + 1 < s a) : MJ F N l r a (b + 1) (nu s a (s b + 1)) := by
  obtain ⟨h1, h2, h3, h4, h5⟩ := h
  have hle : ∀ i, nu s a (s b + 1) i ≤ s i := by
    intro i
    by_cases e : i = a
    · subst e; rw [nu_s]; omega
    · rw [nu_n _ _ _ e]; omega
  refine ⟨fun i => by have := hle i; have := h1 i; omega, fun i hi => ?_, fun i hi d hd g => by have := hle i; have := h3 i hi d hd g; omega, fun i hi g => by have := hle i; have := h4 i hi g; omega, fun j hj g1 g2 => ?_⟩
  · by_cases e : i = a
    · subst e
      right
      rw [nu_s]
      refine rg_s.mpr ⟨b, hb, ?_, he⟩
      rcases h2 b hb with q | q
      · have := h1 i; omega
      · exact q
    · rw [nu_n _ _ _ e]; exact h2 i hi
  · by_cases e : j = b
    · subst e
      have := h3 j hb r (by omega) g1
      rw [nu_s]; omega
    · have := hle a
      have := h5 j (by omega) g1 g2
      omega
theorem MJ.row {r a : Nat} {s : Nat → Nat} (h : MJ F N l r a N s) : MJ F N l r (a + 1) 0 s := by
  obtain ⟨h1, h2, h3, h4, h5⟩ := h
  refine ⟨h1, h2, h3, fun i hi g => ?_, fun j hj => absurd hj (by omega)⟩
  by_cases e : i = a
  · subst e
    obtain ⟨b, b1, b2, b3⟩ := rg_s.mp g
    exact h5 b b1 b2 b3
  · exact h4 i (by omega) g
theorem MJ.round {r : Nat} {s : Nat → Nat} (h : MJ F N l r N 0 s) : MJ F N l (r + 1) 0 0 s := by
  obtain ⟨h1, h2, h3, h4, h5⟩ := h
  refine ⟨h1, h2, fun i hi d hd g => ?_, fun i hi => absurd hi (by omega), fun j hj => absurd hj (by omega)⟩
  by_cases e : d = r + 1
  · subst e; exact h4 i hi g
  · exact h3 i hi d (by omega) g
theorem MJ.fin (hN : N ≤ 20) (hr : Up (edg F) N rk) (hk : ∀ i, i < N → rk i < N) (hB : ∀ i, i < N → ∀ p, bt (prd F i) p = true → p < N) (hl : l < N) {s : Nat → Nat} (h : MJ F N l N 0 0 s) : DS F N l s := by
  obtain ⟨h1, h2, h3, h4, h5⟩ := h
  refine ⟨h2, fun i hi d g => ?_⟩
  have := (rg_rk hN hr hB hl d i g).2
  have := hk l hl
  exact h3 i hi d (by omega) g
theorem DS.small (hN : N ≤ 20) (hr : Up (edg F) N rk) (hk : ∀ i, i < N → rk i < N) (hB : ∀ i, i < N → ∀ p, bt (prd F i) p = true → p < N) (hl : l < N) {s : Nat → Nat} (h : DS F N l s) {i : Nat} (hi : i < N) (hn : s i ≠ 99) : s i ≤ 19 ∧ bt (rg F N l (s i)) i = true := by
  rcases h.1 i hi with q | q
  · exact absurd q hn
  · have := (rg_rk hN hr hB hl _ i q).2
    have := hk l hl
    exact ⟨by omega, q⟩
theorem rg_ds {f : Nat} (h : ∃ d, d ≤ 19 ∧ bt (rg F N l d) f = true) : bt (rg F N l (dsW F N f l)) f = true := by
  obtain ⟨d, h1, h2⟩ := h
  have a1 := fdF_no (fun d => bt (rg F N l d) f) 19 0
  have a2 := fdF_yes (fun d => bt (rg F N l d) f) 19 0
  have a3 := fdF_le (fun d => bt (rg F N l d) f) 19 0
  unfold dsW
  generalize fdF (fun d => bt (rg F N l d) f) 19 0 = e at a1 a2 a3 ⊢
  rcases Nat.lt_or_ge e 19 with q | q
  · exact a2 (by omega)
  · have he : e = 19 := by omega
    subst he
    by_cases z : d = 19
    · rw [← z]; exact h2
    · have := a1 d (by omega) (by omega)
      rw [h2] at this; cases this
theorem DS.ds {s : Nat → Nat} (h : DS F N l s) {f : Nat} (hf : f < N) (h19 : s f ≤ 19) (hb : bt (rg F N l (s f)) f = true) : dsW F N f l = s f := by
  have a1 := fdF_no (fun d => bt (rg F N l d) f) 19 0
  have a2 := fdF_yes (fun d => bt (rg F N l d) f) 19 0
  have a3 := fdF_le (fun d => bt (rg F N l d) f) 19 0
  unfold dsW
  generalize fdF (fun d => bt (rg F N l d) f) 19 0 = e at a1 a2 a3 ⊢
  rcases Nat.lt_trichotomy e (s f) with q | q | q
  · have := h.2 f hf e (a2 (by omega))
    omega
  · exact q
  · have := a1 (s f) (by omega) q
    rw [hb] at this; cases this
/-- the path: step by step nearer -/
theorem ptW_s {s : Nat → Nat} (h : DS F N l s) {f D : Nat} (hf : f < N) (hD : bt (rg F N l D) f = true) (hsf : s f = D) (h19 : D ≤ 19) : ∀ i, i ≤ D → s (ptW F N f l D i) = D - i := by
  intro i
  induction i with
  | zero => intro _; exact hsf
  | succ i ih =>
    intro hi
    have h0 := ih (by omega)
    obtain ⟨w1, w2, w3⟩ := ptW_ok (l := l) hf hD i (by omega)
    have w3 := w3 (by omega)
    obtain ⟨v1, v2, v3⟩ := ptW_ok (l := l) hf hD (i + 1) hi
    have h4 := fdF_yes (fun j => bt (rg F N l (D - (i + 1))) j && bt (prd F j) (ptW F N f l D i)) N 0 (by simpa [lsc] using w3)
    have h4 : (bt (rg F N l (D - (i + 1))) (ptW F N f l D (i + 1)) && bt (prd F (ptW F N f l D (i + 1))) (ptW F N f l D i)) = true := h4
    rw [Bool.and_eq_true] at h4
    have g1 := h.2 _ v1 _ h4.1
    rcases h.1 _ v1 with q | q
    · omega
    · have := h.2 _ w1 _ (rg_s.mpr ⟨_, v1, q, h4.2⟩)
      omega
/-- reached at all -/
theorem rg_front {q i : Nat} (hi : i < N) (hN : N ≤ 20) (hq : q < N) (he : bt (prd F i) q = true) : ∀ d p, bt (rg F N q d) p = true → bt (rg F N i (d + 1)) p = true := by
  intro d
  induction d with
  | zero =>
    intro p hp
    rw [(rg_0 (by omega)).mp hp]
    exact rg_s.mpr ⟨i, hi, (rg_0 (by omega)).mpr rfl, he⟩
  | succ d ih =>
    intro p hp
    obtain ⟨b, h1, h2, h3⟩ := rg_s.mp hp
    exact rg_s.mpr ⟨b, h1, ih b h2, h3⟩
theorem bf_rg (hN : N ≤ 20) (hr : Up (edg F) N rk) {X : Nat → Nat → Bool} (hX : Bf (edg F) N X) : ∀ i, i < N → ∀ p, X i p = true → ∃ d, bt (rg F N i (d + 1)) p = true := by
  have : ∀ n i, rk i < n → i < N → ∀ p, X i p = true → ∃ d, bt (rg F N i (d + 1)) p = true := by
    intro n
    induction n with
    | zero => intro i h; omega
    | succ n ih =>
      intro i hn hi p hp
      rw [hX i hi p] at hp
      obtain ⟨q, hq, hz⟩ := (anyN_iff _ _).mp hp
      have hz : (bt (prd F i) q && (decide (q = p) || X q p)) = true := hz
      rw [Bool.and_eq_true, Bool.or_eq_true, decide_eq_true_eq] at hz
      rcases hz.2 with rfl | h2
      · exact ⟨0, rg_s.mpr ⟨i, hi, (rg_0 (by omega)).mpr rfl, hz.1⟩⟩
      · obtain ⟨d, hd⟩ := ih q (by have := hr q i hq hi hz.1; omega) hq p h2
        exact ⟨d + 1, rg_front hi hN hq hz.1 (d + 1) p hd⟩
  exact fun i hi p => this (rk i + 1) i (by omega) hi p
theorem bf_far (hr : Up (edg F) N rk) {X : Nat → Nat → Bool} (hX : Bf (edg F) N X) : ∀ i, i < N → ∀ j p, j < N → X i j = true → p < N → bt (prd F j) p = true → X i p = true := by
  have : ∀ n i, rk i < n → i < N → ∀ j p, j < N → X i j = true → p < N → bt (prd F j) p = true → X i p = true := by
    intro n
    induction n with
    | zero => intro i h; omega
    | succ n ih =>
      intro i hn hi j p hj hx hp he
      rw [hX i hi j] at hx
      obtain ⟨q, hq, hz⟩ := (anyN_iff _ _).mp hx
      have hz : (bt (prd F i) q && (decide (q = j) || X q j)) = true := hz
      rw [Bool.and_eq_true, Bool.or_eq_true, decide_eq_true_eq] at hz
      rcases hz.2 with e | h2
      · exact hX.step hi hq hz.1 (hX.edge hq hp (by rw [e]; exact he))
      · exact hX.step hi hq hz.1 (ih q (by have := hr q i hq hi hz.1; omega) hq j p hj h2 hp he)
  exact fun i hi => this (rk i + 1) i (by omega) hi
theorem bf_gr (hN : N ≤ 20) (hr : Up (edg F) N rk) (hB : ∀ i, i < N → ∀ p, bt (prd F i) p = true → p < N) {X : Nat → Nat → Bool} (hX : Bf (edg F) N X) {i : Nat} (hi : i < N) : ∀ d p, bt (rg F N i (d + 1)) p = true → X i p = true := by
  intro d
  induction d with
  | zero =>
    intro p hp
    obtain ⟨b, h1, h2, h3⟩ := rg_s.mp hp
    have e : b = i := (rg_0 (by omega)).mp h2
    rw [e] at h3
    exact hX.edge hi (hB i hi p h3) h3
  | succ d ih =>
    intro p hp
    obtain ⟨b, h1, h2, h3⟩ := rg_s.mp hp
    exact bf_far hr hX i hi b p h1 (ih b h2) (hB b h1 p h3) h3
theorem cyc_iff (hN : N ≤ 20) (hr : Up (edg F) N rk) (hB : ∀ i, i < N → ∀ p, bt (prd F i) p = true → p < N) (hl : l < N) {f : Nat} (hf : f < N) : (decide (nI l = nI f) || bt (bfN F N l) f) = true ↔ ∃ d, bt (rg F N l d) f = true := by
  have hX := bfN_Bf hB
  rw [Bool.or_eq_true, decide_eq_true_eq]
  constructor
  · rintro (h | h)
    · have : l = f := nI_inj (by omega) (by omega) h
      exact ⟨0, (rg_0 (by omega)).mpr this.symm⟩
    · obtain ⟨d, hd⟩ := bf_rg hN hr hX l hl f h
      exact ⟨d + 1, hd⟩
  · rintro ⟨d, hd⟩
    cases d with
    | zero => left; rw [(rg_0 (by omega)).mp hd]
    | succ d => right; exact bf_gr hN hr hB hX hl d f hd
end
