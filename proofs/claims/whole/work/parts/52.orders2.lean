/-! width of the reference -/
theorem cn_split (P Q : Nat → Bool) (k : Nat) (h : ∀ i, i < k → Q i = true → P i = true) : cn P k = cn (fun i => P i && !Q i) k + cn Q k := by
  induction k with
  | zero => rfl
  | succ k ih =>
    unfold cn
    rw [ih (fun i hi => h i (by omega))]
    have := h k (by omega)
    cases hq : Q k with
    | true => rw [this hq]; simp; omega
    | false =>
      cases hp : P k with
      | true => simp; omega
      | false => simp
set_option maxHeartbeats 4000000 in
set_option maxRecDepth 100000 in
 theorem m_width {G : GC} {B n m N : Nat} {S : Nat → Int32} {F : Nat → Nat → Int32} {L : Nat} {pt : Nat → Int32} {len : Nat} {C : Nat → Int32} {sv : Nat → Option (Nat × (Nat → Int32) × (Nat → Nat → Int32))} {h : HT} (hN : N ≤ 20) (hM : ML B m N S F L pt len C sv h) (hG : Gr N F) : CtJ G B M9_width [.ref (B + m)] n h 0 0 (fun r2 n2 h2 => r2 = some (.int (bcF (une F N) - nI (cn (scB (Xc (une F N) (bfN F N)) (bt (une F N))) 20))) ∧ n2 = n ∧ ML B m N S F L pt len C sv h2 ∧ tk m h h2) := by
  obtain ⟨⟨rk, hr, hk⟩, hw, hB⟩ := hG
  obtain ⟨A, Wy, V, hh, ha⟩ := hM
  have hw0 := ha.1.1
  have fin0 : ML B m N S F L pt len C sv (wM B m A Wy V h) ∧ tk m h (wM B m A Wy V h) := MLa.fin ha
  unfold CtJ
  refine jj_lv (lv' := [some (.ref (B + m)), none, none]) rfl ?_
  refine jj_h hh ?_
  have hs : ∀ i, i < N → 0 ≤ F 5 i := fun i hi => (ha.1.2.2.1 i hi).2.2.2.2.2.2
  have hop := bt_une (F := F) hN hs
  have hop1 : ∀ i, bt (une F N) i = true → i < N := fun i hi => by rw [hop, Bool.and_eq_true, decide_eq_true_eq] at hi; exact hi.1
  have fin : bcF (une F N) - nI (cn (scB (Xc (une F N) (bfN F N)) (bt (une F N))) 20) = nI (cn (fun i => bt (une F N) i && !(scB (Xc (une F N) (bfN F N)) (bt (une F N))) i) N) := by
    rw [bcF_N hN hop1, cn_cut (P := (scB (Xc (une F N) (bfN F N)) (bt (une F N)))) hN (fun i _ hi => by
      rw [← Bool.not_eq_true]
      intro z
      have := hop1 i (scB_t.mp z).1
      omega), cn_split (bt (une F N)) (scB (Xc (une F N) (bfN F N)) (bt (une F N))) N (fun i _ z => (scB_t.mp z).1), pk_sub (by omega), Nat.add_sub_cancel]
  rw [fin]
  refine jj_s (pc' := 1) rfl rfl ?_
  refine jj_vp0 rfl rfl rfl wM_o rfl rfl (c9_layAhead hN ha.1 hr hk hB) (fun r n' h' q => ?_)
  obtain ⟨rfl, rfl, A1, rfl, hA1, h7⟩ := q
  have L2 : ∀ d k (nx pv : Nat → Option Nat) (A2 : Nat → Nat → Int32), k ≤ N → N + 1 ≤ k + d → Mt (Xc (une F N) (bfN F N)) nx pv → (∀ a, nx a ≠ none ↔ Dk (Xc (une F N) (bfN F N)) (bt (une F N)) k a) → (∀ i, i < N → A2 10 i = enc (pv i)) → (∀ j, j ≠ 10 → j ≠ 11 → j ≠ 12 → A2 j = A1 j) → JJ X0 G B M9_width 30 [some (.ref (B + m)), some (.int (nI (cn (fun i => bt (une F N) i && !(scB (Xc (une F N) (bfN F N)) (bt (une F N))) i) k))), some (.int (nI k))] [] n' (wM B m A2 Wy V h) 0 0 (fun r2 n2 h2 => r2 = some (.int (nI (cn (fun i => bt (une F N) i && !(scB (Xc (une F N) (bfN F N)) (bt (une F N))) i) N))) ∧ n2 = n' ∧ ML B m N S F L pt len C sv h2 ∧ tk m h h2) := by
    intro d
    induction d with
    | zero => intro k nx pv A2 h1 h2; exact absurd h2 (by omega)
    | succ d ih =>
      intro k nx pv A2 h1 h2 hM hD h10 hA2
      have hA2' : ∀ j, j < 4 → A2 j = A j := fun j hj => by rw [hA2 j (by omega) (by omega) (by omega), hA1 j (by omega)]
      have ha' := ha.sc hA2'
      have hw0 := ha'.1.1
      refine jj_s (pc' := 31) rfl rfl ?_
      refine jj_s (pc' := 32) rfl rfl ?_
      refine jj_g rfl rfl wM_o rfl ?_
      refine jj_s (pc' := 36) rfl rfl ?_
      refine jj_m0 hw0 rfl ?_
      refine jj_geN 70 rfl rfl (by omega) (by omega) (fun c => ?_) (fun c => ?_)
      · refine jj_s (pc' := 71) rfl rfl ?_
        exact jj_iret rfl rfl ⟨by rw [show k = N by omega], rfl, MLa.fin ha'⟩
      · have hok : bt (une F N) k = opF F k := by rw [hop, decide_eq_true c]; rfl
        refine jj_s (pc' := 41) rfl rfl ?_
        refine jj_s (pc' := 42) rfl rfl ?_
        refine jj_v1 rfl rfl rfl wM_o rfl rfl (c9_hasEnded (by omega)) ?_
        rw [(ha'.1.2.2.1 k c).2.2.1]
        refine jj_zF 64 rfl rfl (fun c1 => ?_) (fun c1 => ?_)
        · have c1 : bt (une F N) k = false := by rw [hok]; unfold opF; rw [c1]; rfl
          obtain ⟨d1, d2⟩ := Dk_no (X := Xc (une F N) (bfN F N)) c1
          first | refine jj_inc rfl rfl ?_ | refine jj_s (pc' := 67) rfl rfl ?_
          refine jj_s (pc' := 30) rfl rfl ?_
          refine jj_lv ?_ (ih (k + 1) nx pv A2 (by omega) (by omega) hM (fun a => (hD a).trans (d1 a).symm) h10 hA2)
          rw [cn, c1, if_neg (by simp), Nat.add_zero]; rfl
        · have c1 : bt (une F N) k = true := by rw [hok]; unfold opF; rw [c1]; rfl
          have hnk : nx k = none := by
            refine Classical.byContradiction fun q => ?_
            have := Dk_lt k k ((hD k).mp q)
            omega
          refine jj_s (pc' := 49) rfl rfl ?_
          refine jj_s (pc' := 50) rfl rfl ?_
          refine jj_s (pc' := 51) rfl rfl ?_
          refine jj_vp1 rfl rfl rfl wM_o rfl rfl (c9_isMatched (op := une F N) (bf := bfN F N) hN ha'.1 hop (fun i hi => by rw [hA2 7 (by decide) (by decide) (by decide)]; exact h7 i hi) h10 hM hnk c1) (fun r n2 h' q => ?_)
          obtain ⟨rfl, b, nx', pv', A3, rfl, rfl, hA3, h10', hM', hy, hno⟩ := q
          obtain ⟨s1, s2⟩ := Dk_step (X := Xc (une F N) (bfN F N)) (pv' := pv') c1 hD b (fun z => ⟨hM', hy z⟩) hno
          have nx2 := ih (k + 1) nx' pv' A3 (by omega) (by omega) hM' s1 h10' (fun j q1 q2 q3 => (hA3 j q1 q2 q3).trans (hA2 j q1 q2 q3))
          refine jj_zT 61 rfl rfl (fun c2 => ?_) (fun c2 => ?_)
          · rw [c2] at s2
            refine jj_s (pc' := 62) rfl rfl ?_
            refine jj_s (pc' := 63) rfl rfl ?_
            refine jj_s (pc' := 64) rfl rfl ?_
            first | refine jj_inc rfl rfl ?_ | refine jj_s (pc' := 67) rfl rfl ?_
            refine jj_s (pc' := 30) rfl rfl ?_
            refine jj_lv ?_ nx2
            have e1 : nI (cn (fun i => bt (une F N) i && !(scB (Xc (une F N) (bfN F N)) (bt (une F N))) i) k) + 1 = nI (cn (fun i => bt (une F N) i && !(scB (Xc (une F N) (bfN F N)) (bt (une F N))) i) (k + 1)) := by
              rw [cn, c1, s2, if_pos (show (true && !false) = true from rfl), nI_1]
            rw [← e1]; rfl
          · rw [c2] at s2
            refine jj_s (pc' := 58) rfl rfl ?_
            refine jj_s (pc' := 62) rfl rfl ?_
            refine jj_s (pc' := 63) rfl rfl ?_
            refine jj_s (pc' := 64) rfl rfl ?_
            first | refine jj_inc rfl rfl ?_ | refine jj_s (pc' := 67) rfl rfl ?_
            refine jj_s (pc' := 30) rfl rfl ?_
            refine jj_lv ?_ nx2
            have e1 : nI (cn (fun i => bt (une F N) i && !(scB (Xc (une F N) (bfN F N)) (bt (une F N))) i) k) + 0 = nI (cn (fun i => bt (une F N) i && !(scB (Xc (une F N) (bfN F N)) (bt (une F N))) i) (k + 1)) := by
              rw [cn, c1, s2, if_neg (by decide), Nat.add_zero, Int32.add_zero]
            rw [← e1]; rfl
  refine jj_s (pc' := 5) rfl rfl ?_
  refine jj_s (pc' := 6) rfl rfl ?_
  have L1 : ∀ d k (A2 : Nat → Nat → Int32), k + d = 20 → (∀ i, i < k → A2 10 i = -7) → (∀ j, j ≠ 10 → A2 j = A1 j) → JJ X0 G B M9_width 6 [some (.ref (B + m)), some (.int (nI k)), none] [] n' (wM B m A2 Wy V h) 0 0 (fun r2 n2 h2 => r2 = some (.int (nI (cn (fun i => bt (une F N) i && !(scB (Xc (une F N) (bfN F N)) (bt (une F N))) i) N))) ∧ n2 = n' ∧ ML B m N S F L pt len C sv h2 ∧ tk m h h2) := by
    intro d
    induction d with
    | zero =>
      intro k A2 hk h10 hA2
      have hk : k = 20 := by omega
      subst hk
      refine jj_s (pc' := 7) rfl rfl ?_
      refine jj_s (pc' := 9) rfl rfl ?_
      refine jj_icmp_ge 26 rfl rfl (fun c => ?_) (fun c => absurd (by decide) c)
      refine jj_s (pc' := 27) rfl rfl ?_
      refine jj_s (pc' := 28) rfl rfl ?_
      refine jj_s (pc' := 29) rfl rfl ?_
      refine jj_s (pc' := 30) rfl rfl ?_
      exact L2 (N + 1) 0 (fun _ => none) (fun _ => none) A2 (by omega) (by omega) ⟨fun a b h => (by cases h), fun a b h => (by cases h)⟩ (fun a => ⟨fun q => absurd rfl q, fun q => q.elim⟩) (fun i hi => h10 i (by omega)) (fun j q1 _ _ => hA2 j q1)
    | succ d ih =>
      intro k A2 hk h10 hA2
      refine jj_s (pc' := 7) rfl rfl ?_
      refine jj_s (pc' := 9) rfl rfl ?_
      refine jj_geN (b := 20) 26 rfl rfl (by omega) (by omega) (fun c => absurd c (by omega)) (fun c => ?_)
      refine jj_s (pc' := 13) rfl rfl ?_
      refine jj_g rfl rfl wM_o rfl ?_
      refine jj_s (pc' := 17) rfl rfl ?_
      refine jj_s (pc' := 19) rfl rfl ?_
      refine jj_mst 20 rfl rfl (by decide) (by first | assumption | omega) ?_
      first | refine jj_inc rfl rfl ?_ | refine jj_s (pc' := 23) rfl rfl ?_
      refine jj_s (pc' := 6) rfl rfl ?_
      refine ih (k + 1) (uF A2 10 k (-7)) (by omega) (fun i hi => ?_) (fun j hj => by rw [uF_j _ _ _ _ hj]; exact hA2 j hj)
      by_cases e : i = k
      · subst e; exact uF_s _ _ _ _
      · rw [uF_i _ _ _ _ e]; exact h10 i (by omega)
  exact L1 20 0 A1 (by omega) (fun i hi => absurd hi (by omega)) (fun j _ => rfl)
/-! counting orders: the same numbers both ways -/
def rm (s k : Nat) : Nat := s ^^^ 2 ^ k
def Sm (b : Int64) (P : Nat → Bool) (g : Nat → Int64) : Nat → Int64
  | 0 => b
  | k + 1 => if P k = true then Sm b P g k + g k else Sm b P g k
def alN (P : Nat → Bool) : Nat → Bool
  | 0 => true
  | k + 1 => alN P k && P k
theorem alN_iff (P : Nat → Bool) (k : Nat) : alN P k = true ↔ ∀ i, i < k → P i = true := by
  induction k with
  | zero => exact ⟨fun _ i hi => absurd hi (by omega), fun _ => rfl⟩
  | succ k ih =>
    unfold alN
    rw [Bool.and_eq_true, ih]
    constructor
    · intro h i hi
      by_cases e : i = k
      · subst e; exact h.2
      · exact h.1 i (by omega)
    · intro h
      exact ⟨fun i hi => h i (by omega), h k (by omega)⟩
def bs0 (s : Nat) : Int64 := if s = 0 then 1 else 0
def sbY (Y : Nat → Nat → Bool) (c k u : Nat) : Bool := alN (fun j => !Y k j || u.testBit j) c
def isL (Y : Nat → Nat → Bool) (c k s : Nat) : Bool := alN (fun j => if s.testBit j = true then !Y j k else !Y k j) c
def OEq (Y : Nat → Nat → Bool) (c : Nat) (u : Nat → Int64) : Prop := ∀ T, T < 2 ^ c → u T = Sm (bs0 T) (fun k => T.testBit k && sbY Y c k (rm T k)) (fun k => u (rm T k)) c
theorem rm_bit (s k j : Nat) : (rm s k).testBit j = (s.testBit j ^^ decide (k = j)) := by
  unfold rm; rw [Nat.testBit_xor, Nat.testBit_two_pow]
theorem rm_lt {s k : Nat} (h : s.testBit k = true) : rm s k < s := by
  have h1 : rm s k ≤ s := Nat.le_of_testBit fun j hj => by
    rw [rm_bit] at hj
    by_cases e : k = j
    · subst e; exact h
    · rw [decide_eq_false e] at hj; simpa using hj
  have h2 : rm s k ≠ s := fun q => by
    have := rm_bit s k k
    rw [q, h, decide_eq_true (rfl : k = k)] at this
    cases this
  omega
theorem rm_or {s i : Nat} (h : s.testBit i = false) : (s ||| 2 ^ i).testBit i = true ∧ rm (s ||| 2 ^ i) i = s := by
  refine ⟨by rw [Nat.testBit_or, Nat.testBit_two_pow, decide_eq_true (rfl : i = i)]; simp, Nat.eq_of_testBit_eq fun j => ?_⟩
  rw [rm_bit, Nat.testBit_or, Nat.testBit_two_pow]
  by_cases e : i = j
  · subst e; rw [h, decide_eq_true (rfl : i = i)]; rfl
  · rw [decide_eq_false e]; simp
theorem or_rm {T k : Nat} (h : T.testBit k = true) : (rm T k).testBit k = false ∧ rm T k ||| 2 ^ k = T := by
  refine ⟨by rw [rm_bit, h, decide_eq_true (rfl : k = k)]; rfl, Nat.eq_of_testBit_eq fun j => ?_⟩
  rw [Nat.testBit_or, Nat.testBit_two_pow, rm_bit]
  by_cases e : k = j
  · subst e; rw [h, decide_eq_true (rfl : k = k)]; rfl
  · rw [decide_eq_false e]; simp
theorem Sm_cong {b : Int64} {P P' : Nat → Bool} {g g' : Nat → Int64} {c : Nat} (h : ∀ k, k < c → (if P k = true then g k else 0) = (if P' k = true then g' k else 0)) : Sm b P g c = Sm b P' g' c := by
  induction c with
  | zero => rfl
  | succ c ih =>
    have e := ih (fun k hk => h k (by omega))
    have hc := h c (by omega)
    unfold Sm
    rw [e]
    by_cases h1 : P c = true
    · by_cases h2 : P' c = true
      · rw [if_pos h1, if_pos h2] at hc; rw [if_pos h1, if_pos h2, hc]
      · rw [if_pos h1, if_neg h2] at hc; rw [if_pos h1, if_neg h2, hc, Int64.add_zero]
    · by_cases h2 : P' c = true
      · rw [if_neg h1, if_pos h2] at hc; rw [if_neg h1, if_pos h2, ← hc, Int64.add_zero]
      · rw [if_neg h1, if_neg h2]
theorem Sm_one {b : Int64} {P P' : Nat → Bool} {g : Nat → Int64} {c i : Nat} (hi : i < c) (h : ∀ k, k < c → k ≠ i → P k = P' k) (h1 : P i = false) (h2 : P' i = true) : Sm b P' g c = Sm b P g c + g i := by
  induction c with
  | zero => omega
  | succ c ih =>
    unfold Sm
    by_cases e : i = c
    · subst e
      rw [if_pos h2, if_neg (by rw [h1]; decide), Sm_cong (P := P') (P' := P) (g' := g) (fun k hk => by rw [h k (by omega) (by omega)])]
    · rw [ih (by omega) (fun k hk hn => h k (by omega) hn), ← h c (by omega) (fun q => e q.symm)]
      by_cases hp : P c = true
      · rw [if_pos hp, if_pos hp, Int64.add_assoc, Int64.add_comm (g i), ← Int64.add_assoc]
      · rw [if_neg hp, if_neg hp]
theorem OEq_uniq {Y : Nat → Nat → Bool} {c : Nat} {u u' : Nat → Int64} (h : OEq Y c u) (h' : OEq Y c u') : ∀ T, T < 2 ^ c → u T = u' T := by
  have : ∀ n T, T < n → T < 2 ^ c → u T = u' T := by
    intro n
    induction n with
    | zero => intro T h; omega
    | succ n ih =>
      intro T hT hc
      rw [h T hc, h' T hc]
      refine Sm_cong (fun k hk => ?_)
      cases hb : T.testBit k with
      | false => rw [if_neg (by simp), if_neg (by simp)]
      | true =>
        have := rm_lt hb
        rw [ih (rm T k) (by omega) (by omega)]
  exact fun T hT => this (T + 1) T (by omega) hT
/-- a set that lacks something before one of its own is at no beginning -/
theorem OEq_zero {Y : Nat → Nat → Bool} {c : Nat} {u : Nat → Int64} (h : OEq Y c u) : ∀ T, T < 2 ^ c → (∃ k j, k < c ∧ j < c ∧ T.testBit k = true ∧ Y k j = true ∧ T.testBit j = false) → u T = 0 := by
  have : ∀ n T, T < n → T < 2 ^ c → (∃ k j, k < c ∧ j < c ∧ T.testBit k = true ∧ Y k j = true ∧ T.testBit j = false) → u T = 0 := by
    intro n
    induction n with
    | zero => intro T h; omega
    | succ n ih =>
      rintro T hT hc ⟨k0, j0, h1, h2, h3, h4, h5⟩
      rw [h T hc, Sm_cong (P' := fun _ => false) (g' := fun _ => 0) (fun k hk => ?_)]
      · have hT0 : T ≠ 0 := fun q => by rw [q, Nat.zero_testBit] at h3; cases h3
        have e : ∀ c, Sm (bs0 T) (fun _ => false) (fun _ => 0) c = bs0 T := fun c => by
          induction c with
          | zero => rfl
          | succ c ihc => rw [Sm, if_neg (by decide)]; exact ihc
        rw [e, bs0, if_neg hT0]
      · rw [if_neg (show ¬ (false = true) by decide)]
        cases hb : T.testBit k with
        | false => rw [if_neg (by simp)]
        | true =>
          by_cases e : k = k0
          · subst e
            have : sbY Y c k (rm T k) = false := by
              rw [← Bool.not_eq_true]
              intro z
              have := (alN_iff _ _).mp z j0 h2
              rw [h4, rm_bit, h5] at this
              have hne : k ≠ j0 := fun q => by rw [q, h5] at h3; cases h3
              rw [decide_eq_false hne] at this
              cases this
            rw [this, if_neg (by simp)]
          · have hlt := rm_lt hb
            have hne : k ≠ j0 := fun q => by rw [q, h5] at hb; cases hb
            rw [ih (rm T k) (by omega) (by omega) ⟨k0, j0, h1, h2, by rw [rm_bit, h3, decide_eq_false e]; rfl, h4, by rw [rm_bit, h5, decide_eq_false hne]; rfl⟩]
            split <;> rfl
  exact fun T hT => this (T + 1) T (by omega) hT
/-- it is the same to look for the last one -/
theorem OEq_last {Y : Nat → Nat → Bool} {c : Nat} {u : Nat → Int64} (hY : ∀ k, Y k k = false) (h : OEq Y c u) {T : Nat} (hT : T < 2 ^ c) : u T = Sm (bs0 T) (fun k => T.testBit k && isL Y c k T) (fun k => u (rm T k)) c := by
  rw [h T hT]
  refine Sm_cong (fun k hk => ?_)
  cases hb : T.testBit k with
  | false => rw [if_neg (by simp), if_neg (by simp)]
  | true =>
    rw [Bool.true_and, Bool.true_and]
    have hlt := rm_lt hb
    by_cases c1 : ∃ j, j < c ∧ Y k j = true ∧ T.testBit j = false
    · obtain ⟨j, j1, j2, j3⟩ := c1
      have e1 : sbY Y c k (rm T k) = false := by
        rw [← Bool.not_eq_true]
        intro z
        have := (alN_iff _ _).mp z j j1
        have hne : k ≠ j := fun q => by rw [q, j3] at hb; cases hb
        rw [j2, rm_bit, j3, decide_eq_false hne] at this
        cases this
      have e2 : isL Y c k T = false := by
        rw [← Bool.not_eq_true]
        intro z
        have := (alN_iff _ _).mp z j j1
        rw [j3, if_neg (by decide), j2] at this
        cases this
      rw [e1, e2]
    · have e1 : sbY Y c k (rm T k) = true := by
        refine (alN_iff _ _).mpr (fun j hj => ?_)
        cases hy : Y k j with
        | false => rfl
        | true =>
          have hne : k ≠ j := fun q => by rw [← q, hY] at hy; cases hy
          cases hbj : T.testBit j with
          | false => exact absurd ⟨j, hj, hy, hbj⟩ c1
          | true => rw [rm_bit, hbj, decide_eq_false hne]; rfl
      rw [e1, if_pos rfl]
      by_cases c2 : ∃ j, j < c ∧ Y j k = true ∧ T.testBit j = true
      · obtain ⟨j, j1, j2, j3⟩ := c2
        have hne : k ≠ j := fun q => by rw [q, hY] at j2; cases j2
        have e2 : u (rm T k) = 0 := OEq_zero h (rm T k) (by omega) ⟨j, k, j1, hk, by rw [rm_bit, j3, decide_eq_false hne]; rfl, j2, by rw [rm_bit, hb, decide_eq_true (rfl : k = k)]; rfl⟩
        rw [e2]
        split <;> rfl
      · have e2 : isL Y c k T = true := by
          refine (alN_iff _ _).mpr (fun j hj => ?_)
          cases hbj : T.testBit j with
          | true =>
            rw [if_pos rfl]
            cases hy : Y j k with
            | false => rfl
            | true => exact absurd ⟨j, hj, hy, hbj⟩ c2
          | false =>
            rw [if_neg (by decide)]
            cases hy : Y k j with
            | false => rfl
            | true => exact absurd ⟨j, hj, hy, hbj⟩ c1
        rw [e2, if_pos rfl]
/-! the class's counting -/
theorem vpL_s {f : Nat → Int64} {k : Nat} {x : Int64} : vp_updL f k x k = x := if_pos rfl
theorem vpL_n {f : Nat → Int64} {k j : Nat} {x : Int64} (h : j ≠ k) : vp_updL f k x j = f j := if_neg h
def goC (nd : Nat → Int32) (s i : Nat) : Bool := !s.testBit i && decide (nd i &&& (nI s ^^^ -1) = 0)
theorem goC_t {nd : Nat → Int32} {s i : Nat} : goC nd s i = true ↔ (s.testBit i = false ∧ nd i &&& (nI s ^^^ -1) = 0) := by
  unfold goC; rw [Bool.and_eq_true, Bool.not_eq_true', decide_eq_true_eq]
theorem gfK_at (nd : Nat → Int32) (s : Nat) (w : Nat → Int64) (i : Nat) : ∀ T, gfK nd s w i T = if (∃ k, k < i ∧ goC nd s k = true ∧ T = s ||| 2 ^ k) then w T + w s else w T := by
  have self : ∀ k, s.testBit k = false → s ≠ s ||| 2 ^ k := fun k hk q => by
    have := (rm_or hk).1
    rw [← q, hk] at this; cases this
  induction i with
  | zero => intro T; rw [if_neg (fun ⟨k, hk, _⟩ => by omega)]; rfl
  | succ i ih =>
    intro T
    have hs : gfK nd s w i s = w s := by rw [ih, if_neg (fun ⟨k, _, h2, h3⟩ => self k (goC_t.mp h2).1 h3)]
    by_cases c : s.testBit i = false ∧ nd i &&& (nI s ^^^ -1) = 0
    · rw [gfK, if_pos c]
      by_cases e : T = s ||| 2 ^ i
      · subst e
        rw [vpL_s, hs, ih, if_neg, if_pos ⟨i, by omega, goC_t.mpr c, rfl⟩]
        rintro ⟨k, k1, k2, k3⟩
        have h1 := (rm_or c.1).1
        rw [k3, Nat.testBit_or, Nat.testBit_two_pow, c.1, decide_eq_false (by omega)] at h1
        cases h1
      · rw [vpL_n e, ih]
        by_cases q : ∃ k, k < i ∧ goC nd s k = true ∧ T = s ||| 2 ^ k
        · obtain ⟨k, k1, k2, k3⟩ := q
          rw [if_pos ⟨k, k1, k2, k3⟩, if_pos ⟨k, by omega, k2, k3⟩]
        · rw [if_neg q, if_neg]
          rintro ⟨k, k1, k2, k3⟩
          by_cases ek : k = i
          · subst ek; exact e k3
          · exact q ⟨k, by omega, k2, k3⟩
    · rw [gfK, if_neg c, ih]
      by_cases q : ∃ k, k < i ∧ goC nd s k = true ∧ T = s ||| 2 ^ k
      · obtain ⟨k, k1, k2, k3⟩ := q
        rw [if_pos ⟨k, k1, k2, k3⟩, if_pos ⟨k, by omega, k2, k3⟩]
      · rw [if_neg q, if_neg]
        rintro ⟨k, k1, k2, k3⟩
        by_cases ek : k = i
        · subst ek; exact c (goC_t.mp k2)
        · exact q ⟨k, by omega, k2, k3⟩
theorem w0K_at (w : Nat → Int64) (k : Nat) : ∀ T, T < k → w0K w k T = 0 := by
  induction k with
  | zero => intro T h; omega
  | succ k ih =>
    intro T h
    unfold w0K
    by_cases e : T = k
    · subst e; exact vpL_s
    · rw [vpL_n e]; exact ih T (by omega)
theorem cwK_step (nd : Nat → Int32) (c : Nat) (w : Nat → Int64) (s T : Nat) : cwK nd c w (s + 1) T = if (∃ k, k < c ∧ goC nd s k = true ∧ T = s ||| 2 ^ k) then cwK nd c w s T + cwK nd c w s s else cwK nd c w s T := by
  by_cases hz : cwK nd c w s s = 0
  · rw [cwK, if_pos hz, hz, Int64.add_zero]
    split <;> rfl
  · rw [cwK, if_neg hz, gfK_at]
theorem cwK_sum {nd : Nat → Int32} {c : Nat} {w : Nat → Int64} (s : Nat) : ∀ T, T < 2 ^ c → cwK nd c w s T = Sm (bs0 T) (fun k => T.testBit k && (decide (rm T k < s) && goC nd (rm T k) k)) (fun k => cwK nd c w (rm T k) (rm T k)) c := by
  induction s with
  | zero =>
    intro T hT
    have e : ∀ c', Sm (bs0 T) (fun k => T.testBit k && (decide (rm T k < 0) && goC nd (rm T k) k)) (fun k => cwK nd c w (rm T k) (rm T k)) c' = bs0 T := fun c' => by
      induction c' with
      | zero => rfl
      | succ c' ih => rw [Sm, if_neg (by rw [decide_eq_false (by omega)]; simp)]; exact ih
    rw [e]
    unfold cwK bs0
    by_cases h0 : T = 0
    · subst h0; rw [vpL_s, if_pos rfl]
    · rw [vpL_n h0, w0K_at _ _ _ hT, if_neg h0]
  | succ s ih =>
    intro T hT
    rw [cwK_step, ih T hT]
    by_cases q : ∃ k, k < c ∧ goC nd s k = true ∧ T = s ||| 2 ^ k
    · rw [if_pos q]
      obtain ⟨i, i1, i2, i3⟩ := q
      obtain ⟨r1, r2⟩ := rm_or (goC_t.mp i2).1
      rw [← i3] at r1 r2
      have e := Sm_one (b := bs0 T) (P := fun k => T.testBit k && (decide (rm T k < s) && goC nd (rm T k) k)) (P' := fun k => T.testBit k && (decide (rm T k < s + 1) && goC nd (rm T k) k)) (g := fun k => cwK nd c w (rm T k) (rm T k)) i1 (fun k hk hne => by
        cases hb : T.testBit k with
        | false => rfl
        | true =>
          have : rm T k ≠ s := fun z => by
            have h1 := (or_rm hb).1
            rw [z] at h1
            have h2 := hb
            rw [i3, Nat.testBit_or, Nat.testBit_two_pow, h1, decide_eq_false (fun w => hne w.symm)] at h2
            cases h2
          rw [show decide (rm T k < s + 1) = decide (rm T k < s) by rw [decide_eq_decide]; omega]) (by rw [r2, decide_eq_false (by omega)]; simp) (by rw [r1, r2, i2, decide_eq_true (by omega)]; rfl)
      rw [e, r2]
    · rw [if_neg q]
      refine Sm_cong (fun k hk => ?_)
      cases hb : T.testBit k with
      | false => rw [if_neg (by simp), if_neg (by simp)]
      | true =>
        by_cases z : rm T k = s
        · have : goC nd (rm T k) k = false := by
            rw [← Bool.not_eq_true]
            intro g
            exact q ⟨k, hk, by rw [← z]; exact g, by rw [← z]; exact (or_rm hb).2.symm⟩
          rw [this]; simp
        · rw [show decide (rm T k < s + 1) = decide (rm T k < s) by rw [decide_eq_decide]; omega]
theorem cwK_OEq {Y : Nat → Nat → Bool} {nd : Nat → Int32} {c : Nat} (hc : c ≤ 12) (hn : ∀ k, k < c → nd k = msk (Y k) c) (w : Nat → Int64) : OEq Y c (fun T => cwK nd c w T T) := by
  intro T hT
  show cwK nd c w T T = _
  rw [cwK_sum T T hT]
  refine Sm_cong (fun k hk => ?_)
  cases hb : T.testBit k with
  | false => rw [if_neg (by simp), if_neg (by simp)]
  | true =>
    have hlt := rm_lt hb
    have h12 : 2 ^ c ≤ 4096 := (all_nI hc).2.1
    have : goC nd (rm T k) k = sbY Y c k (rm T k) := by
      unfold goC
      rw [(or_rm hb).1, hn k hk, Bool.not_false, Bool.true_and]
      cases hs : sbY Y c k (rm T k) with
      | true =>
        refine decide_eq_true (b_ext fun j hj => ?_)
        rw [b_and, b_not hj, bt_msk _ (by omega), bt_nI (by omega), b_0]
        by_cases hjc : j < c
        · have := (alN_iff _ _).mp hs j hjc
          cases hy : Y k j with
          | false => simp
          | true => rw [hy] at this; rw [show (rm T k).testBit j = true by simpa using this]; simp
        · rw [decide_eq_false hjc]; rfl
      | false =>
        refine decide_eq_false (fun z => ?_)
        rw [← Bool.not_eq_true] at hs
        refine hs ((alN_iff _ _).mpr (fun j hj => ?_))
        have e := congrArg (fun x => bt x j) z
        have e : bt (msk (Y k) c &&& (nI (rm T k) ^^^ -1)) j = bt 0 j := e
        rw [b_and, b_not (by omega), bt_msk _ (by omega), bt_nI (by omega), b_0, decide_eq_true hj] at e
        cases hy : Y k j with
        | false => rfl
        | true => rw [hy] at e; simpa using e
    rw [this, decide_eq_true hlt]
    simp
