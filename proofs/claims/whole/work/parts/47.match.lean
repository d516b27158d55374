/-! matchings -/
theorem pigeon (n : Nat) : ∀ f : Nat → Nat, (∀ i, i ≤ n → f i < n) → ∃ i j, i < j ∧ j ≤ n ∧ f i = f j := by
  induction n with
  | zero => intro f h; exact absurd (h 0 (Nat.le_refl _)) (by omega)
  | succ n ih =>
    intro f h
    by_cases c : ∃ i, i ≤ n ∧ f i = f (n + 1)
    · obtain ⟨i, hi, he⟩ := c
      exact ⟨i, n + 1, by omega, Nat.le_refl _, he⟩
    · have hv := h (n + 1) (Nat.le_refl _)
      obtain ⟨i, j, h1, h2, h3⟩ := ih (fun i => if f i = n then f (n + 1) else f i) (fun i hi => by
        have hi2 := h i (by omega)
        split
        next e => have : f (n + 1) ≠ n := fun q => c ⟨i, hi, e.trans q.symm⟩; omega
        next e => omega)
      refine ⟨i, j, h1, by omega, ?_⟩
      by_cases e1 : f i = n
      · by_cases e2 : f j = n
        · rw [e1, e2]
        · rw [if_pos e1, if_neg e2] at h3
          exact absurd ⟨j, h2, h3.symm⟩ c
      · by_cases e2 : f j = n
        · rw [if_neg e1, if_pos e2] at h3
          exact absurd ⟨i, by omega, h3⟩ c
        · rw [if_neg e1, if_neg e2] at h3
          exact h3
/-- nothing goes one to one into itself and misses one -/
theorem no_miss {R : Nat → Prop} {T : Nat → Nat → Prop} {k : Nat} (hk : R k) (hR : ∀ a, R a → a < 20) (step : ∀ a, R a → ∃ a', R a' ∧ a' ≠ k ∧ T a a') (inj : ∀ a c a', R a → R c → T a a' → T c a' → a = c) : False := by
  obtain ⟨g, hg⟩ := Classical.axiomOfChoice (fun a => show ∃ a', R a → (R a' ∧ a' ≠ k ∧ T a a') from by
    by_cases h : R a
    · obtain ⟨a', h'⟩ := step a h
      exact ⟨a', fun _ => h'⟩
    · exact ⟨0, fun q => absurd q h⟩)
  obtain ⟨x, x0, xs⟩ : ∃ x : Nat → Nat, x 0 = k ∧ ∀ n, x (n + 1) = g (x n) := ⟨fun n => Nat.rec k (fun _ y => g y) n, rfl, fun _ => rfl⟩
  have hx : ∀ n, R (x n) := by
    intro n
    induction n with
    | zero => rw [x0]; exact hk
    | succ n ih => rw [xs]; exact (hg (x n) ih).1
  have hT : ∀ n, T (x n) (x (n + 1)) := fun n => by rw [xs]; exact (hg (x n) (hx n)).2.2
  obtain ⟨i, j, h1, _, h3⟩ := pigeon 20 x (fun i _ => hR _ (hx i))
  have back : ∀ i d, x i = x (i + (d + 1)) → k = x (d + 1) := by
    intro i
    induction i with
    | zero => intro d h; rw [Nat.zero_add, x0] at h; exact h
    | succ i ih =>
      intro d h
      refine ih d (inj (x i) (x (i + (d + 1))) (x (i + 1)) (hx i) (hx _) (hT i) ?_)
      rw [h, show i + 1 + (d + 1) = (i + (d + 1)) + 1 by omega]
      exact hT _
  have := back i (j - i - 1) (by rw [show i + (j - i - 1 + 1) = j by omega]; exact h3)
  rw [xs] at this
  exact (hg _ (hx (j - i - 1))).2.1 this.symm
/-- a matching, both ways -/
def Mt (X : Nat → Nat → Bool) (nx pv : Nat → Option Nat) : Prop := (∀ a b, pv b = some a → X a b = true ∧ nx a = some b) ∧ ∀ a b, nx a = some b → pv b = some a
/-- some matching covers these -/
def Cv (X : Nat → Nat → Bool) (D : Nat → Prop) : Prop := ∃ nx pv, Mt X nx pv ∧ ∀ a, D a → nx a ≠ none
theorem pa_none (og : Nat → Nat) (m : Nat) (nx pv : Nat → Option Nat) : pa og m none nx pv = (nx, pv) := by
  cases m <;> rfl
theorem pa_run {X : Nat → Nat → Bool} {pv0 : Nat → Option Nat} {og rho : Nat → Nat} {Rd : Nat → Prop} {f : Nat} (hO : ∀ i, Rd i → X (og i) i = true ∧ (og i = f ∨ ∃ j, Rd j ∧ rho j < rho i ∧ pv0 j = some (og i))) : ∀ m cur (nx pv : Nat → Option Nat), Rd cur → rho cur < m → nx f = none → (∀ j p, Rd j → rho j < rho cur → pv0 j = some p → nx p = some j) → (∀ a b, b ≠ cur → (pv b = some a ↔ nx a = some b)) → (∀ a, nx a ≠ some cur) → (∀ a b, pv b = some a → X a b = true) → Mt X (pa og m (some cur) nx pv).1 (pa og m (some cur) nx pv).2 ∧ ∀ a, (pa og m (some cur) nx pv).1 a ≠ none ↔ (nx a ≠ none ∨ a = f) := by
  intro m
  induction m with
  | zero => intro cur nx pv _ h; omega
  | succ m ih =>
    intro cur nx pv hR hm hf h1 h2 h3 h4
    show Mt X (pa og m (nx (og cur)) (va_up nx (og cur) (some cur)) (va_up pv cur (some (og cur)))).1 (pa og m (nx (og cur)) (va_up nx (og cur) (some cur)) (va_up pv cur (some (og cur)))).2 ∧ _
    rw [show pa og (m + 1) (some cur) nx pv = pa og m (nx (og cur)) (va_up nx (og cur) (some cur)) (va_up pv cur (some (og cur))) from rfl]
    obtain ⟨o1, o2⟩ := hO cur hR
    by_cases e : og cur = f
    · rw [e, hf, pa_none]
      refine ⟨⟨fun a b hb => ?_, fun a b hb => ?_⟩, fun a => ?_⟩
      · have hb : va_up pv cur (some f) b = some a := hb
        show X a b = true ∧ va_up nx f (some cur) a = some b
        by_cases eb : b = cur
        · subst eb
          rw [va_up_s] at hb
          cases hb
          rw [e] at o1
          exact ⟨o1, va_up_s⟩
        · rw [va_up_n eb] at hb
          have hn := (h2 a b eb).mp hb
          have ha : a ≠ f := fun q => by rw [q, hf] at hn; cases hn
          rw [va_up_n ha]
          exact ⟨h4 a b hb, hn⟩
      · have hb : va_up nx f (some cur) a = some b := hb
        show va_up pv cur (some f) b = some a
        by_cases ea : a = f
        · subst ea
          rw [va_up_s] at hb
          cases hb
          exact va_up_s
        · rw [va_up_n ea] at hb
          have eb : b ≠ cur := fun q => by rw [q] at hb; exact h3 a hb
          rw [va_up_n eb]
          exact (h2 a b eb).mpr hb
      · show va_up nx f (some cur) a ≠ none ↔ _
        by_cases ea : a = f
        · subst ea; rw [va_up_s]; simp
        · rw [va_up_n ea]; simp [ea]
    · obtain ⟨j, j1, j2, j3⟩ := o2.resolve_left e
      have hnj := h1 j _ j1 j2 j3
      have hjc : j ≠ cur := fun q => by rw [q] at j2; omega
      rw [hnj]
      obtain ⟨i1, i2⟩ := ih j (va_up nx (og cur) (some cur)) (va_up pv cur (some (og cur))) j1 (by omega) (by rw [va_up_n (fun q => e q.symm)]; exact hf) (fun j' p hj' hr' hp => by
          have hn := h1 j' p hj' (by omega) hp
          rw [va_up_n (fun q => by rw [q, hnj] at hn; cases hn; omega)]
          exact hn) (fun a b hb => by
          by_cases eb : b = cur
          · subst eb
            rw [va_up_s]
            by_cases ea : a = og b
            · subst ea; rw [va_up_s]; simp
            · rw [va_up_n ea]
              exact ⟨fun q => by cases q; exact absurd rfl ea, fun q => absurd q (h3 a)⟩
          · rw [va_up_n eb]
            by_cases ea : a = og cur
            · subst ea
              rw [va_up_s]
              exact ⟨fun q => by have := (h2 _ b eb).mp q; rw [hnj] at this; cases this; exact absurd rfl hb, fun q => by cases q; exact absurd rfl eb⟩
            · rw [va_up_n ea]
              exact h2 a b eb) (fun a q => by
          by_cases ea : a = og cur
          · subst ea; rw [va_up_s] at q; cases q; exact hjc rfl
          · rw [va_up_n ea] at q
            have q1 := (h2 a j hjc).mpr q
            have q2 := (h2 (og cur) j hjc).mpr hnj
            rw [q1] at q2
            cases q2
            exact ea rfl) (fun a b q => by
          by_cases eb : b = cur
          · subst eb; rw [va_up_s] at q; cases q; exact o1
          · rw [va_up_n eb] at q; exact h4 a b q)
      refine ⟨i1, fun a => (i2 a).trans ?_⟩
      by_cases ea : a = og cur
      · subst ea; rw [va_up_s, hnj]; simp
      · rw [va_up_n ea]
/-- a search that finds one -/
theorem pa_found {X : Nat → Nat → Bool} {nx pv : Nat → Option Nat} {og rho : Nat → Nat} {Rd : Nat → Prop} {f l : Nat} (hM : Mt X nx pv) (hf : nx f = none) (hO : ∀ i, Rd i → X (og i) i = true ∧ (og i = f ∨ ∃ j, Rd j ∧ rho j < rho i ∧ pv j = some (og i))) (hl : Rd l) (hr : rho l < 20) (hp : pv l = none) : Mt X (pa og 20 (some l) nx pv).1 (pa og 20 (some l) nx pv).2 ∧ ∀ a, (pa og 20 (some l) nx pv).1 a ≠ none ↔ (nx a ≠ none ∨ a = f) :=
  pa_run hO 20 l nx pv hl hr hf (fun j p _ _ q => (hM.1 p j q).2) (fun a b _ => ⟨fun q => (hM.1 a b q).2, fun q => hM.2 a b q⟩) (fun a q => by have := hM.2 a l q; rw [hp] at this; cases this) (fun a b q => (hM.1 a b q).1)
/-- a search that finds none -/
theorem hall {X : Nat → Nat → Bool} {nx pv : Nat → Option Nat} {Rd : Nat → Prop} {f : Nat} (hX : ∀ a b, X a b = true → a < 20 ∧ b < 20) (hf20 : f < 20) (hM : Mt X nx pv) (hf : nx f = none) (hR : ∀ i, Rd i → pv i ≠ none) (hC : ∀ a b, (a = f ∨ ∃ j, Rd j ∧ pv j = some a) → X a b = true → Rd b) : ¬ Cv X (fun a => nx a ≠ none ∨ a = f) := by
  rintro ⟨nx', pv', hM', hD⟩
  refine no_miss (R := fun a => a = f ∨ ∃ j, Rd j ∧ pv j = some a) (T := fun a a' => ∃ b, nx' a = some b ∧ pv b = some a') (k := f) (Or.inl rfl) (fun a h => ?_) (fun a h => ?_) (fun a c a' _ _ h1 h2 => ?_)
  · rcases h with rfl | ⟨j, _, h2⟩
    · exact hf20
    · exact (hX a j (hM.1 a j h2).1).1
  · have hc : nx' a ≠ none := hD a (by
      rcases h with h | ⟨j, _, h2⟩
      · exact Or.inr h
      · exact Or.inl (by rw [(hM.1 a j h2).2]; simp))
    cases hb : nx' a with
    | none => exact absurd hb hc
    | some b =>
      have hxb := (hM'.1 a b (hM'.2 a b hb)).1
      have hRb := hC a b h hxb
      cases hpb : pv b with
      | none => exact absurd hpb (hR b hRb)
      | some a' =>
        refine ⟨a', Or.inr ⟨b, hRb, hpb⟩, fun q => ?_, b, rfl, hpb⟩
        have := (hM.1 a' b hpb).2
        rw [q, hf] at this
        cases this
  · obtain ⟨b, b1, b2⟩ := h1
    obtain ⟨d, d1, d2⟩ := h2
    have e1 := (hM.1 a' b b2).2
    have e2 := (hM.1 a' d d2).2
    rw [e1] at e2
    cases e2
    have f1 := hM'.2 a b b1
    have f2 := hM'.2 c b d1
    rw [f1] at f2
    cases f2
    rfl
/-- which items find a next one, the earlier ones first -/
def Dk (X : Nat → Nat → Bool) (op : Nat → Bool) : Nat → Nat → Prop
  | 0 => fun _ => False
  | k + 1 => fun a => Dk X op k a ∨ (a = k ∧ op k = true ∧ Cv X (fun a => Dk X op k a ∨ a = k))
noncomputable def scB (X : Nat → Nat → Bool) (op : Nat → Bool) (k : Nat) : Bool := @decide (op k = true ∧ Cv X (fun a => Dk X op k a ∨ a = k)) (Classical.propDecidable _)
theorem scB_t {X : Nat → Nat → Bool} {op : Nat → Bool} {k : Nat} : scB X op k = true ↔ (op k = true ∧ Cv X (fun a => Dk X op k a ∨ a = k)) := by
  unfold scB
  exact @decide_eq_true_iff _ (Classical.propDecidable _)
theorem Dk_lt {X : Nat → Nat → Bool} {op : Nat → Bool} (k : Nat) : ∀ a, Dk X op k a → a < k := by
  induction k with
  | zero => intro a h; exact h.elim
  | succ k ih =>
    intro a h
    rcases h with h | h
    · have := ih a h; omega
    · omega
theorem Cv_cong {X : Nat → Nat → Bool} {D D' : Nat → Prop} (h : ∀ a, D a ↔ D' a) : Cv X D ↔ Cv X D' := by
  rw [show D = D' from funext fun a => propext (h a)]
/-- how a step that finds one, or none, goes on -/
theorem Dk_step {X : Nat → Nat → Bool} {op : Nat → Bool} {k : Nat} {nx nx' : Nat → Option Nat} {pv' : Nat → Option Nat} (ho : op k = true) (hD : ∀ a, nx a ≠ none ↔ Dk X op k a) (b : Bool) (hy : b = true → Mt X nx' pv' ∧ ∀ a, nx' a ≠ none ↔ (nx a ≠ none ∨ a = k)) (hn : b = false → nx' = nx ∧ ¬ Cv X (fun a => nx a ≠ none ∨ a = k)) : (∀ a, nx' a ≠ none ↔ Dk X op (k + 1) a) ∧ scB X op k = b := by
  have hc : Cv X (fun a => nx a ≠ none ∨ a = k) ↔ Cv X (fun a => Dk X op k a ∨ a = k) := Cv_cong (fun a => or_congr (hD a) Iff.rfl)
  cases b with
  | true =>
    obtain ⟨h1, h2⟩ := hy rfl
    have hcv : Cv X (fun a => Dk X op k a ∨ a = k) := hc.mp ⟨nx', pv', h1, fun a ha => (h2 a).mpr ha⟩
    refine ⟨fun a => ?_, scB_t.mpr ⟨ho, hcv⟩⟩
    rw [h2 a, hD a]
    show _ ↔ (Dk X op k a ∨ (a = k ∧ op k = true ∧ Cv X (fun a => Dk X op k a ∨ a = k)))
    exact or_congr Iff.rfl ⟨fun q => ⟨q, ho, hcv⟩, fun q => q.1⟩
  | false =>
    obtain ⟨h1, h2⟩ := hn rfl
    have hcv : ¬ Cv X (fun a => Dk X op k a ∨ a = k) := fun q => h2 (hc.mpr q)
    refine ⟨fun a => ?_, ?_⟩
    · rw [h1, hD a]
      show _ ↔ (Dk X op k a ∨ (a = k ∧ op k = true ∧ Cv X (fun a => Dk X op k a ∨ a = k)))
      exact ⟨Or.inl, fun q => q.elim id (fun z => absurd z.2.2 hcv)⟩
    · rw [← Bool.not_eq_true]
      exact fun q => hcv (scB_t.mp q).2
theorem Dk_no {X : Nat → Nat → Bool} {op : Nat → Bool} {k : Nat} (ho : op k = false) : (∀ a, Dk X op (k + 1) a ↔ Dk X op k a) ∧ scB X op k = false := by
  refine ⟨fun a => ⟨fun q => q.elim id (fun z => by rw [ho] at z; cases z.2.1), Or.inl⟩, ?_⟩
  rw [← Bool.not_eq_true]
  exact fun q => by have := (scB_t.mp q).1; rw [ho] at this; cases this
