/-! plans: tick by tick, and from end to end -/
theorem cn_one {P Q : Nat → Bool} {N b : Nat} (hb : b < N) (h : ∀ i, i < N → i ≠ b → P i = Q i) (hp : P b = false) (hq : Q b = true) : cn Q N = cn P N + 1 := by
  induction N with
  | zero => omega
  | succ N ih =>
    unfold cn
    by_cases e : b = N
    · subst e
      rw [if_pos hq, if_neg (by rw [hp]; decide)]
      have : ∀ k, k ≤ b → cn P k = cn Q k := by
        intro k
        induction k with
        | zero => intro _; rfl
        | succ k ihk => intro hk; unfold cn; rw [ihk (by omega), h k (by omega) (by omega)]
      rw [this b (Nat.le_refl _)]
    · rw [ih (by omega) (fun i hi hn => h i (by omega) hn), h N (by omega) (fun q => e q.symm)]
      omega
theorem cn_cong {P Q : Nat → Bool} {N : Nat} (h : ∀ i, i < N → P i = Q i) : cn P N = cn Q N := by
  induction N with
  | zero => rfl
  | succ N ih => unfold cn; rw [ih (fun i hi => h i (by omega)), h N (by omega)]
theorem cn_pos {P : Nat → Bool} {N i : Nat} (hi : i < N) (h : P i = true) : 0 < cn P N := by
  induction N with
  | zero => omega
  | succ N ih =>
    unfold cn
    by_cases e : i = N
    · subst e; rw [if_pos h]; omega
    · have := ih (by omega); omega
theorem cn_z {P : Nat → Bool} {N : Nat} (h : cn P N = 0) : ∀ i, i < N → P i = false := fun i hi => by
  cases hp : P i with
  | false => rfl
  | true => have := cn_pos hi hp; omega
theorem pkB_nil {P : Nat → Bool} {R : Nat → Int32} {k : Nat} : pkB P R k = none ↔ ∀ i, i < k → P i = false := by
  induction k with
  | zero => exact ⟨fun _ i hi => absurd hi (by omega), fun _ => rfl⟩
  | succ k ih =>
    constructor
    · intro h
      cases hb : pkB P R k with
      | none =>
        intro i hi
        by_cases e : i = k
        · subst e
          cases hp : P i with
          | false => rfl
          | true => rw [pkB_none hb hp] at h; cases h
        · exact ih.mp hb i (by omega)
      | some b =>
        rw [pkB, hb] at h
        dsimp only at h
        split at h <;> cases h
    · intro h
      rw [pkB_skip (h k (by omega))]
      exact ih.mpr (fun i hi => h i (by omega))
theorem pkB_cong2 {P P' : Nat → Bool} {R R' : Nat → Int32} {k : Nat} (h : ∀ i, i < k → P i = P' i) (hr : ∀ i, i < k → P i = true → R i = R' i) : pkB P R k = pkB P' R' k := by
  induction k with
  | zero => rfl
  | succ k ih =>
    have e := ih (fun i hi => h i (by omega)) (fun i hi => hr i (by omega))
    unfold pkB
    rw [← e, ← h k (by omega)]
    cases hb : pkB P R k with
    | none => rfl
    | some b =>
      have hl := pkB_lt P R k b hb
      dsimp only
      by_cases hp : P k = true
      · rw [hr k (by omega) hp, hr b (by omega) hl.2]
      · rw [if_neg (fun z => hp z.1), if_neg (fun z => hp z.1)]
/-- begun, and not yet at its end -/
def bsy (w : Nat → Nat) (st : Nat → Option Nat) (t i : Nat) : Bool := match st i with
  | none => false
  | some s => decide (t < s + w i)
/-- at its end -/
def dn (w : Nat → Nat) (st : Nat → Option Nat) (t i : Nat) : Bool := match st i with
  | none => false
  | some s => decide (s + w i ≤ t)
def psB (op : Nat → Bool) (E : Nat → Nat → Bool) (w : Nat → Nat) (N : Nat) (st : Nat → Option Nat) (t i : Nat) : Bool := !anyN (fun p => E p i && (op p && !dn w st t p)) N
def enS (w : Nat → Nat) (st : Nat → Option Nat) (i : Nat) : Nat := (st i).getD 0 + w i
def psT (op : Nat → Bool) (E : Nat → Nat → Bool) (w : Nat → Nat) (N : Nat) (st : Nat → Option Nat) (i : Nat) : Nat := mxN (fun p => E p i && op p) (enS w st) N
def cdB (op : Nat → Bool) (E : Nat → Nat → Bool) (w : Nat → Nat) (N : Nat) (st : Nat → Option Nat) (t i : Nat) : Bool := op i && ((st i).isNone && psB op E w N st t i)
def rkS (op : Nat → Bool) (E : Nat → Nat → Bool) (w : Nat → Nat) (N : Nat) (R : Nat → Int32 → Int32) (st : Nat → Option Nat) (t i : Nat) : Int32 := R i (nI t - nI (psT op E w N st i))
/-- what is begun at one time -/
def tkS (op : Nat → Bool) (E : Nat → Nat → Bool) (w : Nat → Nat) (N : Nat) (R : Nat → Int32 → Int32) (W t : Nat) : Nat → (Nat → Option Nat) → (Nat → Option Nat)
  | 0, st => st
  | f + 1, st => if cn (bsy w st t) N < W then (match pkB (cdB op E w N st t) (rkS op E w N R st t) N with
    | none => st
    | some b => tkS op E w N R W t f (va_up st b (some t))) else st
def ST (op : Nat → Bool) (E : Nat → Nat → Bool) (w : Nat → Nat) (N : Nat) (R : Nat → Int32 → Int32) (W : Nat) : Nat → (Nat → Option Nat)
  | 0 => fun _ => none
  | t + 1 => tkS op E w N R W t 6 (ST op E w N R W t)
def okS' (op : Nat → Bool) (N : Nat) (st : Nat → Option Nat) (t : Nat) : Prop := ∀ i s, st i = some s → i < N ∧ op i = true ∧ s < t
section
variable {op : Nat → Bool} {E : Nat → Nat → Bool} {w : Nat → Nat} {N : Nat} {R : Nat → Int32 → Int32} {W : Nat}
theorem va_up_s {α : Type} {f : Nat → α} {k : Nat} {v : α} : va_up f k v k = v := if_pos rfl
theorem va_up_n {α : Type} {f : Nat → α} {k j : Nat} {v : α} (h : j ≠ k) : va_up f k v j = f j := if_neg h
theorem bsy_dn {st : Nat → Option Nat} {t i s : Nat} (h : st i = some s) : bsy w st t i = !dn w st t i := by
  unfold bsy dn
  rw [h]
  by_cases c : s + w i ≤ t
  · simp [c, Nat.not_lt.mpr c]
  · simp [c, Nat.lt_of_not_le c]
theorem cd_at {st : Nat → Option Nat} {t b : Nat} (h : cdB op E w N st t b = true) : op b = true ∧ st b = none ∧ psB op E w N st t b = true := by
  unfold cdB at h
  rw [Bool.and_eq_true, Bool.and_eq_true, Option.isNone_iff_eq_none] at h
  exact ⟨h.1, h.2.1, h.2.2⟩
theorem dn_up {st : Nat → Option Nat} {t b : Nat} (hw : 1 ≤ w b) (hn : st b = none) (i : Nat) : dn w (va_up st b (some t)) t i = dn w st t i := by
  by_cases e : i = b
  · subst e
    unfold dn
    rw [va_up_s, hn]
    exact decide_eq_false (by omega)
  · unfold dn; rw [va_up_n e]
theorem bz_up {st : Nat → Option Nat} {t b : Nat} (hw : 1 ≤ w b) (hn : st b = none) (hb : b < N) : cn (bsy w (va_up st b (some t)) t) N = cn (bsy w st t) N + 1 := by
  refine cn_one hb (fun i _ hi => ?_) ?_ ?_
  · unfold bsy; rw [va_up_n hi]
  · unfold bsy; rw [hn]
  · unfold bsy; rw [va_up_s]; exact decide_eq_true (by omega)
theorem ps_up {st : Nat → Option Nat} {t b : Nat} (hw : 1 ≤ w b) (hn : st b = none) (i : Nat) : psB op E w N (va_up st b (some t)) t i = psB op E w N st t i := by
  unfold psB
  rw [anyN_cong (P' := fun p => E p i && (op p && !dn w st t p)) (fun p _ => by rw [dn_up hw hn])]
theorem cd_up {st : Nat → Option Nat} {t b : Nat} (hw : 1 ≤ w b) (hn : st b = none) (i : Nat) : cdB op E w N (va_up st b (some t)) t i = (cdB op E w N st t i && !decide (i = b)) := by
  unfold cdB
  rw [ps_up hw hn]
  by_cases e : i = b
  · subst e; rw [va_up_s, decide_eq_true rfl]; simp
  · rw [va_up_n e, decide_eq_false e]; simp
theorem pt_up {st : Nat → Option Nat} {t b : Nat} (hob : op b = true) (hn : st b = none) (hb : b < N) {i : Nat} (h : psB op E w N st t i = true) : psT op E w N (va_up st b (some t)) i = psT op E w N st i := by
  refine mxN_cong (fun p hp he => ?_)
  have : p ≠ b := by
    rintro rfl
    rw [Bool.and_eq_true] at he
    unfold psB at h
    rw [Bool.not_eq_true', ← Bool.not_eq_true, anyN_iff] at h
    exact h ⟨p, hp, by rw [he.1, he.2]; unfold dn; rw [hn]; rfl⟩
  unfold enS
  rw [va_up_n this]
theorem tk_ok (hw : ∀ i, i < N → op i = true → 1 ≤ w i) {t : Nat} (f : Nat) : ∀ st, okS' op N st (t + 1) → okS' op N (tkS op E w N R W t f st) (t + 1) := by
  induction f with
  | zero => intro st h; exact h
  | succ f ih =>
    intro st h
    unfold tkS
    split
    next =>
      split
      next => exact h
      next b hb =>
        have hl := pkB_lt _ _ _ _ hb
        have hc := cd_at hl.2
        refine ih _ (fun i s hs => ?_)
        by_cases e : i = b
        · subst e; rw [va_up_s] at hs; cases hs; exact ⟨hl.1, hc.1, by omega⟩
        · rw [va_up_n e] at hs; exact h i s hs
    next => exact h
/-- at the end of a time: all workers are busy, or nothing can be begun -/
theorem tk_end (hw : ∀ i, i < N → op i = true → 1 ≤ w i) {t : Nat} (f : Nat) : ∀ st, W ≤ cn (bsy w st t) N + f → W ≤ cn (bsy w (tkS op E w N R W t f st) t) N ∨ ∀ i, i < N → cdB op E w N (tkS op E w N R W t f st) t i = false := by
  induction f with
  | zero => intro st h; exact Or.inl h
  | succ f ih =>
    intro st h
    unfold tkS
    split
    next =>
      split
      next hb => exact Or.inr (pkB_nil.mp hb)
      next b hb =>
        have hl := pkB_lt _ _ _ _ hb
        have hc := cd_at hl.2
        exact ih _ (by rw [bz_up (hw b hl.1 hc.1) hc.2.1 hl.1]; omega)
    next c => exact Or.inl (Nat.not_lt.mp c)
theorem tk_dn (hw : ∀ i, i < N → op i = true → 1 ≤ w i) {t : Nat} (f : Nat) : ∀ st, ∀ i, dn w (tkS op E w N R W t f st) t i = dn w st t i := by
  induction f with
  | zero => intro st i; rfl
  | succ f ih =>
    intro st i
    unfold tkS
    split
    next =>
      split
      next => rfl
      next b hb =>
        have hl := pkB_lt _ _ _ _ hb
        have hc := cd_at hl.2
        rw [ih, dn_up (hw b hl.1 hc.1) hc.2.1]
    next => rfl
/-- nothing is begun where all are busy, or nothing can be -/
theorem tk_idle {st : Nat → Option Nat} {t : Nat} (h : W ≤ cn (bsy w st t) N ∨ ∀ i, i < N → cdB op E w N st t i = false) (f : Nat) : tkS op E w N R W t f st = st := by
  cases f with
  | zero => rfl
  | succ f =>
    unfold tkS
    split
    next c =>
      rcases h with h | h
      · omega
      · rw [pkB_nil.mpr h]
    next => rfl
theorem dn_bsy {st : Nat → Option Nat} {t t' : Nat} (h : ∀ i, dn w st t i = dn w st t' i) (i : Nat) : bsy w st t i = bsy w st t' i := by
  cases hs : st i with
  | none => unfold bsy; rw [hs]
  | some s => rw [bsy_dn hs, bsy_dn hs, h]
theorem dn_cd {st : Nat → Option Nat} {t t' : Nat} (h : ∀ i, dn w st t i = dn w st t' i) (i : Nat) : cdB op E w N st t i = cdB op E w N st t' i := by
  unfold cdB psB
  rw [anyN_cong (P' := fun p => E p i && (op p && !dn w st t' p)) (fun p _ => by rw [h])]
/-- from one end to the next nothing is begun -/
theorem ST_idle (hw : ∀ i, i < N → op i = true → 1 ≤ w i) (hW : W ≤ 6) {t : Nat} (j : Nat) (h : ∀ i s, ST op E w N R W (t + 1) i = some s → s + w i ≤ t ∨ t + 1 + j ≤ s + w i) : ST op E w N R W (t + 1 + j) = ST op E w N R W (t + 1) := by
  induction j with
  | zero => rfl
  | succ j ih =>
    have e := ih (fun i s hs => (h i s hs).imp id (fun z => by omega))
    show tkS op E w N R W (t + 1 + j) 6 (ST op E w N R W (t + 1 + j)) = _
    rw [e]
    have hd : ∀ i, dn w (ST op E w N R W (t + 1)) (t + 1 + j) i = dn w (ST op E w N R W (t + 1)) t i := by
      intro i
      unfold dn
      cases hs : ST op E w N R W (t + 1) i with
      | none => rfl
      | some s =>
        dsimp only
        have := h i s hs
        by_cases c : s + w i ≤ t
        · rw [decide_eq_true c, decide_eq_true (by omega)]
        · rw [decide_eq_false c, decide_eq_false (by omega)]
    refine tk_idle ?_ 6
    rcases tk_end (op := op) (E := E) (R := R) (W := W) hw (t := t) 6 (ST op E w N R W t) (by omega) with q | q
    · left
      rw [cn_cong (fun i _ => dn_bsy hd i)]
      exact q
    · right
      intro i hi
      rw [dn_cd hd]
      exact q i hi
theorem ST_ok (hw : ∀ i, i < N → op i = true → 1 ≤ w i) (t : Nat) : okS' op N (ST op E w N R W t) t := by
  induction t with
  | zero => intro i s h; cases h
  | succ t ih => exact tk_ok hw 6 _ (fun i s h => by have := ih i s h; exact ⟨this.1, this.2.1, by omega⟩)
/-- when all are begun, nothing more is -/
theorem ST_stop (hw : ∀ i, i < N → op i = true → 1 ≤ w i) {t : Nat} (h : ∀ i, i < N → op i = true → ST op E w N R W t i ≠ none) (d : Nat) : ST op E w N R W (t + d) = ST op E w N R W t := by
  induction d with
  | zero => rfl
  | succ d ih =>
    show tkS op E w N R W (t + d) 6 (ST op E w N R W (t + d)) = _
    rw [ih]
    refine tk_idle (Or.inr fun i hi => ?_) 6
    cases hc : cdB op E w N (ST op E w N R W t) (t + d) i with
    | false => rfl
    | true => have := cd_at hc; exact absurd this.2.1 (h i hi this.1)
/-- when nothing is busy and nothing can be begun, all are begun -/
theorem all_begun {rk : Nat → Nat} (hr : Up E N rk) {st : Nat → Option Nat} {t : Nat} (hb : ∀ i, i < N → bsy w st t i = false) (hc : ∀ i, i < N → cdB op E w N st t i = false) : ∀ i, i < N → op i = true → st i ≠ none := by
  have : ∀ n i, rk i < n → i < N → op i = true → st i ≠ none := by
    intro n
    induction n with
    | zero => intro i h; omega
    | succ n ih =>
      intro i hn hi ho hs
      have := hc i hi
      unfold cdB at this
      rw [ho, hs] at this
      have : psB op E w N st t i = false := this
      unfold psB at this
      rw [Bool.not_eq_false', anyN_iff] at this
      obtain ⟨p, hp, he⟩ := this
      rw [Bool.and_eq_true, Bool.and_eq_true] at he
      have hpi := hr p i hp hi he.1
      cases hsp : st p with
      | none => exact ih p (by omega) hp he.2.1 hsp
      | some s =>
        have h1 := hb p hp
        rw [bsy_dn hsp] at h1
        have h2 := he.2.2
        rw [h1] at h2
        cases h2
  exact fun i => this (rk i + 1) i (by omega)
end
