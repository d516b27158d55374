/-! the class's plan goes through the same starts -/
def opF (F : Nat → Nat → Int32) : Nat → Bool := fun i => !decide (3 ≤ F 5 i)
def plR (F : Nat → Nat → Int32) (pol : Int32) (hg : Nat → Int32) : Nat → Int32 → Int32 := fun i x => rkF F i pol (hg i) x
def rn (w : Nat → Nat) (st : Nat → Option Nat) (t i : Nat) : Bool := match st i with
  | none => false
  | some s => decide (t ≤ s + w i)
abbrev tkF (F : Nat → Nat → Int32) (N : Nat) (pol : Int32) (hg : Nat → Int32) (W t f : Nat) (st : Nat → Option Nat) : Nat → Option Nat := tkS (opF F) (edg F) (wkN F) N (plR F pol hg) W t f st
abbrev STF (F : Nat → Nat → Int32) (N : Nat) (pol : Int32) (hg : Nat → Int32) (W t : Nat) : Nat → Option Nat := ST (opF F) (edg F) (wkN F) N (plR F pol hg) W t
def P01 (F : Nat → Nat → Int32) (st : Nat → Option Nat) (P : Nat → Nat → Int32) : Prop := ∀ i s, st i = some s → P 0 i = nI s ∧ P 1 i = nI (s + wkN F i)
def Md (F : Nat → Nat → Int32) (N W : Nat) (st : Nat → Option Nat) (T : Nat) (V : Nat → Int32) (P : Nat → Nat → Int32) : Prop :=
  V 0 = nI T ∧ (∀ i, bt (V 4) i = (decide (i < N) && (opF F i && (st i).isNone))) ∧ (∀ i, bt (V 6) i = (decide (i < N) && bsy (wkN F) st T i)) ∧ (∀ i, bt (V 5) i = (decide (i < N) && cdB (opF F) (edg F) (wkN F) N st T i)) ∧ cn (bsy (wkN F) st T) N ≤ W ∧ V 7 = nI (W - cn (bsy (wkN F) st T) N) ∧ (∀ i, i < N → cdB (opF F) (edg F) (wkN F) N st T i = true → P 2 i = nI (psT (opF F) (edg F) (wkN F) N st i)) ∧ P01 F st P
def Bg (F : Nat → Nat → Int32) (N W : Nat) (st : Nat → Option Nat) (T : Nat) (V : Nat → Int32) (P : Nat → Nat → Int32) : Prop :=
  V 0 = nI T ∧ (∀ i, bt (V 4) i = (decide (i < N) && (opF F i && (st i).isNone))) ∧ (∀ i, bt (V 6) i = (decide (i < N) && rn (wkN F) st T i)) ∧ (∀ i, bt (V 5) i = (decide (i < N) && (opF F i && ((st i).isNone && (decide (1 ≤ T) && psB (opF F) (edg F) (wkN F) N st (T - 1) i))))) ∧ cn (rn (wkN F) st T) N ≤ W ∧ V 7 = nI (W - cn (rn (wkN F) st T) N) ∧ (∀ i, i < N → bt (V 5) i = true → P 2 i = nI (psT (opF F) (edg F) (wkN F) N st i)) ∧ P01 F st P
section
variable {F : Nat → Nat → Int32} {N W T : Nat} {pol : Int32} {hg H : Nat → Int32}
theorem opF_t {i : Nat} : opF F i = true ↔ ¬ 3 ≤ F 5 i := by unfold opF; simp
theorem op_wk (hk : Wk F N) {i : Nat} (hi : i < N) (ho : opF F i = true) : F 1 i = nI (wkN F i) := by
  rw [← (hk i hi).1, wkL, if_neg (opF_t.mp ho)]
theorem Md_up (hN : N ≤ 20) (hw : ∀ i, i < N → opF F i = true → 1 ≤ wkN F i) (hk : Wk F N) {st : Nat → Option Nat} {V : Nat → Int32} {P : Nat → Nat → Int32} (M : Md F N W st T V P) {b : Nat} (hb : b < N) (hc : cdB (opF F) (edg F) (wkN F) N st T b = true) (hz : cn (bsy (wkN F) st T) N < W) : Md F N W (va_up st b (some T)) T (st1V V b) (st1P F V P b) := by
  obtain ⟨m0, m4, m6, m5, m7, m8, m9, m10⟩ := M
  obtain ⟨c1, c2, c3⟩ := cd_at hc
  have hwb := hw b hb c1
  have ez := bz_up (t := T) hwb c2 hb
  refine ⟨m0, fun i => ?_, fun i => ?_, fun i => ?_, ?_, ?_, fun i hi hci => ?_, fun i s hs => ?_⟩
  · show bt (V 4 &&& (bit b ^^^ -1)) i = _
    rw [b_drop (by omega), m4]
    by_cases e : i = b
    · subst e; rw [va_up_s, decide_eq_true (rfl : i = i)]; simp
    · rw [va_up_n e, decide_eq_false e]; simp
  · show bt (V 6 ||| bit b) i = _
    rw [b_put (by omega), m6]
    by_cases e : i = b
    · subst e
      unfold bsy
      rw [va_up_s]
      dsimp only
      rw [decide_eq_true (rfl : i = i), decide_eq_true hb, decide_eq_true (show T < T + wkN F i by omega)]; simp
    · unfold bsy
      rw [va_up_n e, decide_eq_false e]; simp
  · show bt (V 5 &&& (bit b ^^^ -1)) i = _
    rw [b_drop (by omega), m5, cd_up hwb c2, Bool.and_assoc]
  · rw [ez]; omega
  · show V 7 - 1 = _
    rw [m8, ez, show W - cn (bsy (wkN F) st T) N = (W - (cn (bsy (wkN F) st T) N + 1)) + 1 by omega, nI_pred]
  · rw [cd_up hwb c2, Bool.and_eq_true] at hci
    show st1P F V P b 2 i = _
    rw [show st1P F V P b 2 = P 2 by unfold st1P; rw [uF_j _ _ _ _ (by omega), uF_j _ _ _ _ (by omega)], m9 i hi hci.1, pt_up c1 c2 hb (cd_at hci.1).2.2]
  · unfold st1P
    by_cases e : i = b
    · subst e
      rw [va_up_s] at hs
      cases hs
      rw [uF_j _ _ _ _ (by omega), uF_s, uF_s, m0, op_wk hk hb c1, nI_add]
      exact ⟨rfl, rfl⟩
    · rw [va_up_n e] at hs
      rw [uF_i _ _ _ _ e, uF_i _ _ _ _ e, uF_i _ _ _ _ e, uF_i _ _ _ _ e]
      exact m10 i s hs
theorem sIL_tk (hN : N ≤ 20) (hW : W ≤ 6) (hw : ∀ i, i < N → opF F i = true → 1 ≤ wkN F i) (hk : Wk F N) (hH : ∀ i, i < N → H i = hg i) (f : Nat) : ∀ (st : Nat → Option Nat) (V : Nat → Int32) (P : Nat → Nat → Int32), Md F N W st T V P → Md F N W (tkF F N pol hg W T f st) T (sIL F N H pol f V P).1 (sIL F N H pol f V P).2 := by
  induction f with
  | zero => intro st V P M; exact M
  | succ f ih =>
    intro st V P M
    have M' := M
    obtain ⟨m0, m4, m6, m5, m7, m8, m9, m10⟩ := M
    show Md F N W (tkS (opF F) (edg F) (wkN F) N (plR F pol hg) W T (f + 1) st) T _ _
    by_cases c : cn (bsy (wkN F) st T) N < W
    · cases hb : pkB (cdB (opF F) (edg F) (wkN F) N st T) (rkS (opF F) (edg F) (wkN F) N (plR F pol hg) st T) N with
      | none =>
        have e5 : V 5 = 0 := b_ext fun i _ => by
          rw [m5, b_0]
          by_cases hi : i < N
          · show (decide (i < N) && cdB (opF F) (edg F) (wkN F) N st T i) = false
            rw [pkB_nil.mp hb i hi]; simp
          · rw [decide_eq_false hi]; rfl
        rw [tkS, if_pos c, hb, sIL, if_pos (Or.inr e5)]
        exact M'
      | some b =>
        have hl := pkB_lt _ _ _ _ hb
        have n7 : ¬ V 7 ≤ 0 := fun q => by
          rw [m8] at q
          have := (nI_leI (a := W - cn (bsy (wkN F) st T) N) (b := 0) (by omega) (by omega)).mp q
          omega
        have n5 : V 5 ≠ 0 := b_ne0.mpr ⟨b, by omega, by rw [m5, decide_eq_true hl.1]; exact hl.2⟩
        have hbs : bsB F N H pol V P = some b := by
          rw [← hb]
          refine pkB_cong2 (fun i hi => ?_) (fun i hi hp => ?_)
          · rw [m5, decide_eq_true hi]; rfl
          · rw [m5, decide_eq_true hi] at hp
            unfold bsR rkS plR
            rw [m0, m9 i hi hp, hH i hi]
        rw [tkS, if_pos c, hb, sIL, if_neg (fun z => z.elim n7 n5), hbs]
        exact ih _ _ _ (Md_up hN hw hk M' hl.1 hl.2 c)
    · have e7 : V 7 ≤ 0 := by
        rw [m8, show W - cn (bsy (wkN F) st T) N = 0 by omega]; decide
      rw [tkS, if_neg c, sIL, if_pos (Or.inl e7)]
      exact M'
/-- those at their end leave -/
theorem ec_at (hN : N ≤ 20) (hT : T ≤ 1000) (hk : Wk F N) {st : Nat → Option Nat} {V : Nat → Int32} {P : Nat → Nat → Int32} (hs : okS' (opF F) N st T) (M : Bg F N W st T V P) : ∀ k, k ≤ N → (∀ j, j ≠ 6 → j ≠ 7 → ec P V k j = V j) ∧ (∀ i, bt (ec P V k 6) i = (bt (V 6) i && !(decide (i < k) && dn (wkN F) st T i))) ∧ cn (fun i => rn (wkN F) st T i && !(decide (i < k) && dn (wkN F) st T i)) N ≤ W ∧ ec P V k 7 = nI (W - cn (fun i => rn (wkN F) st T i && !(decide (i < k) && dn (wkN F) st T i)) N) := by
  obtain ⟨m0, m4, m6, m5, m7, m8, m9, m10⟩ := M
  intro k
  induction k with
  | zero =>
    intro _
    refine ⟨fun j _ _ => rfl, fun i => ?_, ?_, ?_⟩
    · rw [decide_eq_false (by omega : ¬ i < 0)]; simp [ec]
    · rw [cn_cong (Q := rn (wkN F) st T) (fun i _ => by rw [decide_eq_false (by omega : ¬ i < 0)]; simp)]; exact m7
    · rw [cn_cong (Q := rn (wkN F) st T) (fun i _ => by rw [decide_eq_false (by omega : ¬ i < 0)]; simp)]; exact m8
  | succ k ih =>
    intro hkN
    obtain ⟨i1, i2, i3, i4⟩ := ih (by omega)
    have hbk : bt (ec P V k 6) k = rn (wkN F) st T k := by
      rw [i2, m6, decide_eq_false (by omega : ¬ k < k), decide_eq_true (by omega : k < N)]; simp
    have hcond : (bt (ec P V k 6) k = true ∧ P 1 k ≤ ec P V k 0) ↔ (rn (wkN F) st T k = true ∧ dn (wkN F) st T k = true) := by
      rw [hbk, i1 0 (by omega) (by omega), m0]
      cases hst : st k with
      | none => unfold rn; rw [hst]; simp
      | some s =>
        have hsT := (hs k s hst).2.2
        have hwk := (hk k (by omega)).2
        rw [(m10 k s hst).2]
        unfold dn
        rw [hst]
        dsimp only
        rw [decide_eq_true_eq, nI_leI (by omega) (by omega)]
    by_cases c : rn (wkN F) st T k = true ∧ dn (wkN F) st T k = true
    · have e : ec P V (k + 1) = upd (upd (ec P V k) 6 (ec P V k 6 &&& (bit k ^^^ -1))) 7 (ec P V k 7 + 1) := by rw [ec, if_pos (hcond.mpr c)]
      have hcn := cn_one (P := fun i => rn (wkN F) st T i && !(decide (i < k + 1) && dn (wkN F) st T i)) (Q := fun i => rn (wkN F) st T i && !(decide (i < k) && dn (wkN F) st T i)) (N := N) (b := k) (by omega) (fun i _ hi => by
        rw [show decide (i < k + 1) = decide (i < k) by rw [decide_eq_decide]; omega]) (by rw [c.1, c.2, decide_eq_true (by omega : k < k + 1)]; rfl) (by rw [c.1, decide_eq_false (by omega : ¬ k < k)]; rfl)
      rw [e]
      refine ⟨fun j h6 h7 => by rw [pk_un h7, pk_un h6]; exact i1 j h6 h7, fun i => ?_, by omega, ?_⟩
      · rw [pk_un (by omega), pk_us, b_drop (by omega), i2]
        by_cases ei : i = k
        · subst ei; rw [decide_eq_true (rfl : i = i), decide_eq_true (by omega : i < i + 1), c.2]; simp
        · rw [decide_eq_false ei, show decide (i < k + 1) = decide (i < k) by rw [decide_eq_decide]; omega]; simp
      · rw [pk_us, i4, nI_1]
        congr 1
        omega
    · have e : ec P V (k + 1) = ec P V k := by rw [ec, if_neg (fun z => c (hcond.mp z))]
      rw [e]
      have same : ∀ i, (rn (wkN F) st T i && !(decide (i < k + 1) && dn (wkN F) st T i)) = (rn (wkN F) st T i && !(decide (i < k) && dn (wkN F) st T i)) := by
        intro i
        by_cases ei : i = k
        · subst ei
          cases h1 : rn (wkN F) st T i with
          | false => rfl
          | true =>
            cases h2 : dn (wkN F) st T i with
            | false => simp
            | true => exact absurd ⟨h1, h2⟩ c
        · rw [show decide (i < k + 1) = decide (i < k) by rw [decide_eq_decide]; omega]
      refine ⟨i1, fun i => ?_, ?_, ?_⟩
      · rw [i2, m6, Bool.and_assoc, Bool.and_assoc, same]
      · rw [cn_cong (fun i _ => same i)]; exact i3
      · rw [cn_cong (fun i _ => same i)]; exact i4
theorem rn_bsy (w : Nat → Nat) (st : Nat → Option Nat) (t i : Nat) : (rn w st t i && !dn w st t i) = bsy w st t i := by
  unfold rn dn bsy
  cases st i with
  | none => rfl
  | some s =>
    dsimp only
    by_cases c : t < s + w i
    · rw [decide_eq_true c, decide_eq_true (by omega), decide_eq_false (by omega)]; rfl
    · rw [decide_eq_false c]
      by_cases c2 : t ≤ s + w i
      · rw [decide_eq_true c2, decide_eq_true (by omega)]; rfl
      · rw [decide_eq_false c2]; rfl
theorem fs_at (hN : N ≤ 20) (hT : T ≤ 1000) (hk : Wk F N) {st : Nat → Option Nat} {V : Nat → Int32} {P : Nat → Nat → Int32} (hs : okS' (opF F) N st T) (M : Bg F N W st T V P) : Md F N W st T (fsS F N (ec P V N) P).1 (fsS F N (ec P V N) P).2 := by
  obtain ⟨i1, i2, i3, i4⟩ := ec_at hN hT hk hs M N (Nat.le_refl _)
  obtain ⟨m0, m4, m6, m5, m7, m8, m9, m10⟩ := M
  have erb : ∀ i, i < N → (rn (wkN F) st T i && !(decide (i < N) && dn (wkN F) st T i)) = bsy (wkN F) st T i := fun i hi => by rw [decide_eq_true hi]; exact rn_bsy _ _ _ _
  rw [cn_cong erb] at i3 i4
  have e6 : ∀ i, bt (ec P V N 6) i = (decide (i < N) && bsy (wkN F) st T i) := fun i => by
    rw [i2, m6]
    by_cases hi : i < N
    · rw [decide_eq_true hi, ← rn_bsy]; simp
    · rw [decide_eq_false hi]; rfl
  have e5 : ec P V N 5 = V 5 := i1 5 (by omega) (by omega)
  have e4 : ec P V N 4 = V 4 := i1 4 (by omega) (by omega)
  have e0 : ec P V N 0 = nI T := (i1 0 (by omega) (by omega)).trans m0
  generalize ec P V N = V1 at i1 i4 e6 e5 e4 e0 ⊢
  -- who has no one before him that hasn't ended
  have hne : ∀ k, k < N → (prd F k &&& (V1 4 ||| V1 6) = 0 ↔ psB (opF F) (edg F) (wkN F) N st T k = true) := by
    intro k hk'
    have : psB (opF F) (edg F) (wkN F) N st T k = true ↔ ¬ ∃ p, p < N ∧ (edg F p k && (opF F p && !dn (wkN F) st T p)) = true := by
      show psB (opF F) (edg F) (wkN F) N st T k = true ↔ _
      unfold psB
      rw [Bool.not_eq_true', ← Bool.not_eq_true, anyN_iff]
    rw [this, ← Classical.not_not (a := prd F k &&& (V1 4 ||| V1 6) = 0)]
    refine not_congr (Iff.trans b_ne0 ?_)
    constructor
    · rintro ⟨p, _, hp⟩
      rw [b_and, b_or, e4, m4, e6, Bool.and_eq_true, Bool.or_eq_true] at hp
      rcases hp.2 with q | q
      · rw [Bool.and_eq_true, Bool.and_eq_true, decide_eq_true_eq, Option.isNone_iff_eq_none] at q
        refine ⟨p, q.1, ?_⟩
        rw [show edg F p k = true from hp.1, q.2.1]
        unfold dn
        rw [q.2.2]; rfl
      · rw [Bool.and_eq_true, decide_eq_true_eq] at q
        refine ⟨p, q.1, ?_⟩
        cases hst : st p with
        | none => have := q.2; unfold bsy at this; rw [hst] at this; cases this
        | some s =>
          have h2 := q.2
          rw [bsy_dn hst] at h2
          rw [show edg F p k = true from hp.1, (hs p s hst).2.1, h2]; rfl
    · rintro ⟨p, hpN, hp⟩
      rw [Bool.and_eq_true, Bool.and_eq_true] at hp
      refine ⟨p, by omega, ?_⟩
      rw [b_and, b_or, e4, m4, e6, show bt (prd F k) p = true from hp.1, decide_eq_true hpN, hp.2.1]
      cases hst : st p with
      | none => rfl
      | some s => rw [bsy_dn hst, hp.2.2]; simp
  have ecd : ∀ i, bt (V1 4 &&& (V1 5 ^^^ -1)) i = (bt (V 4) i && !bt (V 5) i) := fun i => by
    rw [e4, e5]
    rcases Nat.lt_or_ge i 32 with hi | hi
    · rw [b_and, b_not hi]
    · rw [b_big hi, b_big hi]; rfl
  have L : ∀ k, k ≤ N → (∀ i, bt ((fsL F (V1 4 ||| V1 6) (V1 4 &&& (V1 5 ^^^ -1)) V1 P k).1 5) i = (bt (V 5) i || (decide (i < k) && (bt (V 4) i && (!bt (V 5) i && psB (opF F) (edg F) (wkN F) N st T i))))) ∧ (∀ j, j ≠ 2 → (fsL F (V1 4 ||| V1 6) (V1 4 &&& (V1 5 ^^^ -1)) V1 P k).2 j = P j) ∧ ∀ i, (fsL F (V1 4 ||| V1 6) (V1 4 &&& (V1 5 ^^^ -1)) V1 P k).2 2 i = if i < k ∧ bt (V 4) i = true ∧ bt (V 5) i = false ∧ psB (opF F) (edg F) (wkN F) N st T i = true then nI T else P 2 i := by
    intro k
    induction k with
    | zero =>
      intro _
      refine ⟨fun i => ?_, fun j _ => rfl, fun i => ?_⟩
      · rw [decide_eq_false (by omega : ¬ i < 0)]; simp [fsL, e5]
      · rw [if_neg (by omega)]; rfl
    | succ k ih =>
      intro hkN
      obtain ⟨l1, l2, l3⟩ := ih (by omega)
      have h0 := fsL_0 F (V1 4 ||| V1 6) (V1 4 &&& (V1 5 ^^^ -1)) V1 P k 0 (by omega)
      have hcond : (bt (V1 4 &&& (V1 5 ^^^ -1)) k = true ∧ prd F k &&& (V1 4 ||| V1 6) = 0) ↔ (bt (V 4) k = true ∧ bt (V 5) k = false ∧ psB (opF F) (edg F) (wkN F) N st T k = true) := by
        rw [ecd, hne k (by omega), Bool.and_eq_true, Bool.not_eq_true', and_assoc]
      by_cases c : bt (V 4) k = true ∧ bt (V 5) k = false ∧ psB (opF F) (edg F) (wkN F) N st T k = true
      · rw [fsL, if_pos (hcond.mpr c)]
        refine ⟨fun i => ?_, fun j hj => ?_, fun i => ?_⟩
        · show bt (upd (fsL F (V1 4 ||| V1 6) (V1 4 &&& (V1 5 ^^^ -1)) V1 P k).1 5 ((fsL F (V1 4 ||| V1 6) (V1 4 &&& (V1 5 ^^^ -1)) V1 P k).1 5 ||| bit k) 5) i = _
          rw [pk_us, b_put (by omega), l1]
          by_cases ei : i = k
          · subst ei; rw [decide_eq_true (rfl : i = i), decide_eq_true (by omega : i < i + 1), c.1, c.2.1, c.2.2]; simp
          · rw [decide_eq_false ei, show decide (i < k + 1) = decide (i < k) by rw [decide_eq_decide]; omega]; simp
        · show uF (fsL F (V1 4 ||| V1 6) (V1 4 &&& (V1 5 ^^^ -1)) V1 P k).2 2 k _ j = _
          rw [uF_j _ _ _ _ hj]; exact l2 j hj
        · show uF (fsL F (V1 4 ||| V1 6) (V1 4 &&& (V1 5 ^^^ -1)) V1 P k).2 2 k _ 2 i = _
          by_cases ei : i = k
          · subst ei; rw [uF_s, if_pos ⟨by omega, c⟩, h0, e0]
          · rw [uF_i _ _ _ _ ei, l3]
            by_cases q : i < k ∧ bt (V 4) i = true ∧ bt (V 5) i = false ∧ psB (opF F) (edg F) (wkN F) N st T i = true
            · rw [if_pos q, if_pos ⟨by omega, q.2⟩]
            · rw [if_neg q, if_neg (fun z => q ⟨by omega, z.2⟩)]
      · rw [fsL, if_neg (fun z => c (hcond.mp z))]
        refine ⟨fun i => ?_, l2, fun i => ?_⟩
        · rw [l1]
          by_cases ei : i = k
          · subst ei
            rw [decide_eq_false (by omega : ¬ i < i), decide_eq_true (by omega : i < i + 1)]
            cases h4 : bt (V 4) i with
            | false => rfl
            | true =>
              cases h5 : bt (V 5) i with
              | true => rfl
              | false =>
                cases h6 : psB (opF F) (edg F) (wkN F) N st T i with
                | false => rfl
                | true => exact absurd ⟨h4, h5, h6⟩ c
          · rw [show decide (i < k + 1) = decide (i < k) by rw [decide_eq_decide]; omega]
        · rw [l3]
          by_cases q : i < k ∧ bt (V 4) i = true ∧ bt (V 5) i = false ∧ psB (opF F) (edg F) (wkN F) N st T i = true
          · rw [if_pos q, if_pos ⟨by omega, q.2⟩]
          · rw [if_neg q, if_neg (fun z => ?_)]
            by_cases ei : i = k
            · subst ei; exact c z.2
            · exact q ⟨by omega, z.2⟩
  obtain ⟨l1, l2, l3⟩ := L N (Nat.le_refl _)
  have l0 := fsL_0 F (V1 4 ||| V1 6) (V1 4 &&& (V1 5 ^^^ -1)) V1 P N
  have mono : ∀ i, i < N → 1 ≤ T → psB (opF F) (edg F) (wkN F) N st (T - 1) i = true → psB (opF F) (edg F) (wkN F) N st T i = true := by
    intro i hi hT1 h
    show psB (opF F) (edg F) (wkN F) N st T i = true
    have h : psB (opF F) (edg F) (wkN F) N st (T - 1) i = true := h
    unfold psB at h ⊢
    rw [Bool.not_eq_true', ← Bool.not_eq_true, anyN_iff] at h ⊢
    rintro ⟨p, hp, he⟩
    refine h ⟨p, hp, ?_⟩
    rw [Bool.and_eq_true, Bool.and_eq_true] at he
    rw [he.1, he.2.1]
    cases hst : st p with
    | none => unfold dn; rw [hst]; rfl
    | some s =>
      have h2 := he.2.2
      unfold dn at h2 ⊢
      rw [hst] at h2 ⊢
      dsimp only at h2 ⊢
      rw [Bool.not_eq_true', decide_eq_false_iff_not] at h2
      rw [decide_eq_false (by omega)]; rfl
  have f5 : ∀ i, bt ((fsS F N V1 P).1 5) i = (decide (i < N) && cdB (opF F) (edg F) (wkN F) N st T i) := by
    intro i
    show bt ((fsL F (V1 4 ||| V1 6) (V1 4 &&& (V1 5 ^^^ -1)) V1 P N).1 5) i = _
    rw [l1, m5, m4]
    show _ = (decide (i < N) && cdB (opF F) (edg F) (wkN F) N st T i)
    unfold cdB
    by_cases hi : i < N
    · rw [decide_eq_true hi]
      cases ho : opF F i with
      | false => rfl
      | true =>
        cases hn : (st i).isNone with
        | false => rfl
        | true =>
          by_cases hT1 : 1 ≤ T
          · rw [decide_eq_true hT1]
            cases hp : psB (opF F) (edg F) (wkN F) N st (T - 1) i with
            | false => simp
            | true => rw [show psB (opF F) (edg F) (wkN F) N st T i = true from mono i hi hT1 hp]; simp
          · rw [decide_eq_false hT1]; simp
    · rw [decide_eq_false hi]; rfl
  refine ⟨(l0 0 (by omega)).trans e0, fun i => ?_, fun i => ?_, f5, i3, (l0 7 (by omega)).trans i4, fun i hi hc => ?_, fun i s hst => ?_⟩
  · show bt ((fsL F (V1 4 ||| V1 6) (V1 4 &&& (V1 5 ^^^ -1)) V1 P N).1 4) i = _
    rw [l0 4 (by omega), e4, m4]
  · show bt ((fsL F (V1 4 ||| V1 6) (V1 4 &&& (V1 5 ^^^ -1)) V1 P N).1 6) i = _
    rw [l0 6 (by omega), e6]
  · obtain ⟨c1, c2, c3⟩ := cd_at hc
    show (fsL F (V1 4 ||| V1 6) (V1 4 &&& (V1 5 ^^^ -1)) V1 P N).2 2 i = _
    rw [l3]
    have h4 : bt (V 4) i = true := by rw [m4, decide_eq_true hi, c1, c2]; rfl
    cases h5 : bt (V 5) i with
    | true => rw [if_neg (fun z => by cases z.2.2.1)]; exact m9 i hi h5
    | false =>
      rw [if_pos ⟨hi, h4, rfl, c3⟩]
      congr 1
      -- nothing before it ended later than now, and something did now (or now is 0)
      have le : psT (opF F) (edg F) (wkN F) N st i ≤ T := by
        refine mxN_le (fun p hp he => ?_)
        rw [Bool.and_eq_true] at he
        have c3' := c3
        unfold psB at c3'
        rw [Bool.not_eq_true', ← Bool.not_eq_true, anyN_iff] at c3'
        have hd : dn (wkN F) st T p = true := by
          cases hd : dn (wkN F) st T p with
          | true => rfl
          | false => exact absurd ⟨p, hp, by rw [he.1, he.2, hd]; rfl⟩ c3'
        unfold dn at hd
        unfold enS
        cases hst : st p with
        | none => rw [hst] at hd; cases hd
        | some s => rw [hst] at hd; exact of_decide_eq_true hd
      by_cases hT1 : 1 ≤ T
      · rw [m5, decide_eq_true hi, c1, c2, decide_eq_true hT1] at h5
        have h5 : psB (opF F) (edg F) (wkN F) N st (T - 1) i = false := h5
        unfold psB at h5
        rw [Bool.not_eq_false', anyN_iff] at h5
        obtain ⟨p, hp, he⟩ := h5
        rw [Bool.and_eq_true, Bool.and_eq_true] at he
        have c3' := c3
        unfold psB at c3'
        rw [Bool.not_eq_true', ← Bool.not_eq_true, anyN_iff] at c3'
        have hd : dn (wkN F) st T p = true := by
          cases hd : dn (wkN F) st T p with
          | true => rfl
          | false => exact absurd ⟨p, hp, by rw [he.1, he.2.1, hd]; rfl⟩ c3'
        have ge : enS (wkN F) st p ≤ psT (opF F) (edg F) (wkN F) N st i := mxN_ge hp (by rw [he.1, he.2.1]; rfl)
        have : T ≤ enS (wkN F) st p := by
          have h1 := he.2.2
          unfold dn at hd h1
          unfold enS
          cases hst : st p with
          | none => rw [hst] at hd; cases hd
          | some s =>
            rw [hst] at hd h1
            dsimp only at hd h1
            rw [Bool.not_eq_true', decide_eq_false_iff_not] at h1
            have := of_decide_eq_true hd
            show T ≤ s + wkN F p
            omega
        omega
      · omega
  · rw [show (fsS F N V1 P).2 = (fsL F (V1 4 ||| V1 6) (V1 4 &&& (V1 5 ^^^ -1)) V1 P N).2 from rfl, l2 0 (by omega), l2 1 (by omega)]
    exact m10 i s hst
end
