/-! counting and looking over the items -/
def cn (P : Nat → Bool) : Nat → Nat
  | 0 => 0
  | k + 1 => cn P k + (if P k = true then 1 else 0)
theorem cn_le (P : Nat → Bool) (k : Nat) : cn P k ≤ k := by
  induction k with
  | zero => exact Nat.le_refl _
  | succ k ih => unfold cn; split <;> omega
def anyN (P : Nat → Bool) : Nat → Bool
  | 0 => false
  | k + 1 => anyN P k || P k
theorem anyN_iff (P : Nat → Bool) (k : Nat) : anyN P k = true ↔ ∃ i, i < k ∧ P i = true := by
  induction k with
  | zero => simp [anyN]
  | succ k ih =>
    unfold anyN
    rw [Bool.or_eq_true, ih]
    constructor
    · rintro (⟨i, h1, h2⟩ | h)
      · exact ⟨i, by omega, h2⟩
      · exact ⟨k, by omega, h⟩
    · rintro ⟨i, h1, h2⟩
      by_cases e : i = k
      · subst e; exact Or.inr h2
      · exact Or.inl ⟨i, by omega, h2⟩
/-- the first of those with the greatest rank -/
def pkB (P : Nat → Bool) (R : Nat → Int32) : Nat → Option Nat
  | 0 => none
  | k + 1 => match pkB P R k with
    | none => if P k = true then some k else none
    | some b => if P k = true ∧ R b < R k then some k else some b
def enc (o : Option Nat) : Int32 := match o with
  | none => -7
  | some b => nI b
def rkO (R : Nat → Int32) (o : Option Nat) : Int32 := match o with
  | none => 0
  | some b => R b
theorem pkB_lt (P : Nat → Bool) (R : Nat → Int32) (k b : Nat) (h : pkB P R k = some b) : b < k ∧ P b = true := by
  induction k generalizing b with
  | zero => cases h
  | succ k ih =>
    unfold pkB at h
    split at h
    next =>
      split at h
      next hp => cases h; exact ⟨by omega, hp⟩
      next => cases h
    next c hc =>
      have := ih c hc
      split at h
      next hp => cases h; exact ⟨by omega, hp.1⟩
      next => cases h; exact ⟨by omega, this.2⟩
theorem pkB_skip {P : Nat → Bool} {R : Nat → Int32} {k : Nat} (h : P k = false) : pkB P R (k + 1) = pkB P R k := by
  rw [pkB]
  cases pkB P R k <;> simp [h]
theorem pkB_none {P : Nat → Bool} {R : Nat → Int32} {k : Nat} (hp : pkB P R k = none) (h : P k = true) : pkB P R (k + 1) = some k := by
  rw [pkB, hp]
  simp [h]
theorem pkB_win {P : Nat → Bool} {R : Nat → Int32} {k b : Nat} (hp : pkB P R k = some b) (h : P k = true) (hr : R b < R k) : pkB P R (k + 1) = some k := by
  rw [pkB, hp]
  simp [h, hr]
theorem pkB_lose {P : Nat → Bool} {R : Nat → Int32} {k b : Nat} (hp : pkB P R k = some b) (hr : ¬ R b < R k) : pkB P R (k + 1) = some b := by
  rw [pkB, hp]
  simp [hr]
theorem enc_ne {b : Nat} (h : b < 2147483648) : ¬ nI b = -7 := by
  intro q
  have h1 := nI_pos (n := b) h
  rw [q] at h1
  exact h1 (by decide)
set_option maxHeartbeats 4000000 in
set_option maxRecDepth 100000 in
 theorem c_inFlightOf {G : GC} {B n : Nat} {h : HT} {q N : Nat} {S : Nat → Int32} {F : Nat → Nat → Int32} (hN : N ≤ 20) (w : Int32) : CtJ G B M5_inFlightOf [.ref (B + q), .int w] n (wQ B q N S F h) 0 0 (eqP (some (.int (nI (cn (fun i => decide (F 5 i = 2 ∧ F 3 i = w)) N)))) n (wQ B q N S F h)) := by
  unfold CtJ
  refine jj_lv (lv' := [some (.ref (B + q)), some (.int w), none, none]) rfl ?_
  refine jj_s (pc' := 1) rfl rfl ?_
  refine jj_s (pc' := 2) rfl rfl ?_
  refine jj_s (pc' := 3) rfl rfl ?_
  refine jj_s (pc' := 4) rfl rfl ?_
  have L : ∀ d k, k ≤ N → N + 1 ≤ k + d → JJ X0 G B M5_inFlightOf 4 [some (.ref (B + q)), some (.int w), some (.int (nI (cn (fun i => decide (F 5 i = 2 ∧ F 3 i = w)) k))), some (.int (nI k))] [] n (wQ B q N S F h) 0 0 (eqP (some (.int (nI (cn (fun i => decide (F 5 i = 2 ∧ F 3 i = w)) N)))) n (wQ B q N S F h)) := by
    intro d
    induction d with
    | zero => intro k h1 h2; exact absurd h2 (by omega)
    | succ d ih =>
      intro k h1 h2
      refine jj_s (pc' := 5) rfl rfl ?_
      refine jj_s (pc' := 6) rfl rfl ?_
      refine jj_g rfl rfl wQ_o rfl ?_
      refine jj_geN 41 rfl rfl (by omega) (by omega) (fun c => ?_) (fun c => ?_)
      · refine jj_s (pc' := 42) rfl rfl ?_
        exact jj_iret rfl rfl ⟨by rw [show k = N by omega], rfl, rfl⟩
      · refine jj_s (pc' := 13) rfl rfl ?_
        refine jj_g rfl rfl wQ_o rfl ?_
        refine jj_s (pc' := 17) rfl rfl ?_
        refine jj_qld [] rfl rfl (by decide) (by first | assumption | omega) ?_
        refine jj_s (pc' := 19) rfl rfl ?_
        refine jj_icmp_ne 35 rfl rfl (fun (c2 : ¬ F 5 k = 2) => ?_) (fun (c2 : F 5 k = 2) => ?_)
        · first | refine jj_inc rfl rfl ?_ | refine jj_s (pc' := 38) rfl rfl ?_
          refine jj_s (pc' := 4) rfl rfl ?_
          refine jj_lv ?_ (ih (k + 1) (by omega) (by omega))
          simp [cn, c2]
        · refine jj_s (pc' := 23) rfl rfl ?_
          refine jj_g rfl rfl wQ_o rfl ?_
          refine jj_s (pc' := 27) rfl rfl ?_
          refine jj_qld [] rfl rfl (by decide) (by first | assumption | omega) ?_
          refine jj_s (pc' := 29) rfl rfl ?_
          refine jj_icmp_ne 35 rfl rfl (fun c3 => ?_) (fun c3 => ?_)
          · first | refine jj_inc rfl rfl ?_ | refine jj_s (pc' := 38) rfl rfl ?_
            refine jj_s (pc' := 4) rfl rfl ?_
            refine jj_lv ?_ (ih (k + 1) (by omega) (by omega))
            simp [cn, c3]
          · first | refine jj_inc rfl rfl ?_ | refine jj_s (pc' := 35) rfl rfl ?_
            first | refine jj_inc rfl rfl ?_ | refine jj_s (pc' := 38) rfl rfl ?_
            refine jj_s (pc' := 4) rfl rfl ?_
            refine jj_lv ?_ (ih (k + 1) (by omega) (by omega))
            simp [cn, c2, c3]
  exact L (N + 1) 0 (by omega) (by omega)
/-- whether an item can be received -/
def cbr (S : Nat → Int32) (F : Nat → Nat → Int32) (N i : Nat) : Bool := decide (F 5 i = 1 ∧ F 6 i ≤ S 1 ∧ nI (cn (fun j => decide (F 5 j = 2 ∧ F 3 j = F 3 i)) N) < S 3)
set_option maxHeartbeats 4000000 in
set_option maxRecDepth 100000 in
 theorem c_canBeReceived {G : GC} {B n : Nat} {h : HT} {q N : Nat} {S : Nat → Int32} {F : Nat → Nat → Int32} (hN : N ≤ 20) {i : Nat} (hi : i < 20) : CtJ G B M5_canBeReceived [.ref (B + q), .int (nI i)] n (wQ B q N S F h) 0 0 (eqP (some (.int (bI (cbr S F N i)))) n (wQ B q N S F h)) := by
  unfold CtJ
  refine jj_lv (lv' := [some (.ref (B + q)), some (.int (nI i))]) rfl ?_
  refine jj_s (pc' := 1) rfl rfl ?_
  refine jj_g rfl rfl wQ_o rfl ?_
  refine jj_s (pc' := 5) rfl rfl ?_
  refine jj_qld [] rfl rfl (by decide) (by first | assumption | omega) ?_
  refine jj_s (pc' := 7) rfl rfl ?_
  refine jj_icmp_ne 44 rfl rfl (fun (c1 : ¬ F 5 i = 1) => ?_) (fun (c1 : F 5 i = 1) => ?_)
  · refine jj_s (pc' := 45) rfl rfl ?_
    exact jj_zret rfl rfl (Or.inl rfl) ⟨by simp [bI, cbr, c1], rfl, rfl⟩
  · refine jj_s (pc' := 11) rfl rfl ?_
    refine jj_g rfl rfl wQ_o rfl ?_
    refine jj_s (pc' := 15) rfl rfl ?_
    refine jj_qld [] rfl rfl (by decide) (by first | assumption | omega) ?_
    refine jj_s (pc' := 17) rfl rfl ?_
    refine jj_g rfl rfl wQ_o rfl ?_
    refine jj_icmp_gt 44 rfl rfl (fun c2 => ?_) (fun c2 => ?_)
    · refine jj_s (pc' := 45) rfl rfl ?_
      exact jj_zret rfl rfl (Or.inl rfl) ⟨by simp [bI, cbr, Int32.not_le.mpr c2], rfl, rfl⟩
    · refine jj_s (pc' := 24) rfl rfl ?_
      refine jj_s (pc' := 25) rfl rfl ?_
      refine jj_g rfl rfl wQ_o rfl ?_
      refine jj_s (pc' := 29) rfl rfl ?_
      refine jj_qld [] rfl rfl (by decide) (by first | assumption | omega) ?_
      refine jj_v1 rfl rfl rfl wQ_o rfl rfl (c_inFlightOf hN _) ?_
      refine jj_s (pc' := 34) rfl rfl ?_
      refine jj_g rfl rfl wQ_o rfl ?_
      refine jj_icmp_ge 44 rfl rfl (fun c3 => ?_) (fun c3 => ?_)
      · refine jj_s (pc' := 45) rfl rfl ?_
        exact jj_zret rfl rfl (Or.inl rfl) ⟨by rw [show cbr S F N i = false from decide_eq_false (fun z => Int32.not_lt.mpr c3 z.2.2)]; rfl, rfl, rfl⟩
      · refine jj_s (pc' := 41) rfl rfl ?_
        refine jj_s (pc' := 45) rfl rfl ?_
        exact jj_zret rfl rfl (Or.inr rfl) ⟨by rw [show cbr S F N i = true from decide_eq_true ⟨c1, Int32.not_lt.mp c2, Int32.not_le.mp c3⟩]; rfl, rfl, rfl⟩
set_option maxHeartbeats 4000000 in
set_option maxRecDepth 100000 in
 theorem c_nextToReceive {G : GC} {B n : Nat} {h : HT} {q N : Nat} {S : Nat → Int32} {F : Nat → Nat → Int32} (hN : N ≤ 20) {a : Nat} {H : Nat → Int32} (hH : (wQ B q N S F h) a = some (ia 20 H)) : CtJ G B M5_nextToReceive [.ref (B + q), .ref (B + a)] n (wQ B q N S F h) 0 0 (eqP (some (.int (enc (pkB (cbr S F N) (fun i => rkN S F i (H i)) N)))) n (wQ B q N S F h)) := by
  unfold CtJ
  refine jj_lv (lv' := [some (.ref (B + q)), some (.ref (B + a)), none, none, none, none]) rfl ?_
  refine jj_s (pc' := 2) rfl rfl ?_
  refine jj_s (pc' := 3) rfl rfl ?_
  refine jj_s (pc' := 4) rfl rfl ?_
  refine jj_s (pc' := 5) rfl rfl ?_
  refine jj_s (pc' := 6) rfl rfl ?_
  refine jj_s (pc' := 8) rfl rfl ?_
  have L : ∀ d k, k ≤ N → N + 1 ≤ k + d → ∀ z, JJ X0 G B M5_nextToReceive 8 [some (.ref (B + q)), some (.ref (B + a)), some (.int (enc (pkB (cbr S F N) (fun i => rkN S F i (H i)) k))), some (.int (rkO (fun i => rkN S F i (H i)) (pkB (cbr S F N) (fun i => rkN S F i (H i)) k))), some (.int (nI k)), z] [] n (wQ B q N S F h) 0 0 (eqP (some (.int (enc (pkB (cbr S F N) (fun i => rkN S F i (H i)) N)))) n (wQ B q N S F h)) := by
    intro d
    induction d with
    | zero => intro k h1 h2; exact absurd h2 (by omega)
    | succ d ih =>
      intro k h1 h2 z
      refine jj_s (pc' := 10) rfl rfl ?_
      refine jj_s (pc' := 11) rfl rfl ?_
      refine jj_g rfl rfl wQ_o rfl ?_
      refine jj_geN 62 rfl rfl (by omega) (by omega) (fun c => ?_) (fun c => ?_)
      · refine jj_s (pc' := 63) rfl rfl ?_
        exact jj_iret rfl rfl ⟨by rw [show k = N by omega], rfl, rfl⟩
      · refine jj_s (pc' := 18) rfl rfl ?_
        refine jj_s (pc' := 20) rfl rfl ?_
        refine jj_v1 rfl rfl rfl wQ_o rfl rfl (c_canBeReceived hN (by omega)) ?_
        refine jj_zT 56 rfl rfl (fun c2 => ?_) (fun c2 => ?_)
        · first | refine jj_inc rfl rfl ?_ | refine jj_s (pc' := 59) rfl rfl ?_
          refine jj_s (pc' := 8) rfl rfl ?_
          refine jj_lv ?_ (ih (k + 1) (by omega) (by omega) z)
          rw [pkB_skip c2]
          rfl
        · refine jj_s (pc' := 27) rfl rfl ?_
          refine jj_s (pc' := 29) rfl rfl ?_
          refine jj_s (pc' := 30) rfl rfl ?_
          refine jj_s (pc' := 32) rfl rfl ?_
          refine jj_ialdN rfl hH (by omega) rfl ?_
          refine jj_v2 rfl rfl rfl wQ_o rfl rfl (c_rankNow (by omega) _) ?_
          refine jj_s (pc' := 38) rfl rfl ?_
          refine jj_s (pc' := 39) rfl rfl ?_
          refine jj_s (pc' := 41) rfl rfl ?_
          cases hp : pkB (cbr S F N) (fun i => rkN S F i (H i)) k with
          | none =>
            refine jj_icmp_eq 50 rfl rfl (fun c3 => ?_) (fun c3 => absurd rfl c3)
            refine jj_s (pc' := 52) rfl rfl ?_
            refine jj_s (pc' := 53) rfl rfl ?_
            refine jj_s (pc' := 55) rfl rfl ?_
            refine jj_s (pc' := 56) rfl rfl ?_
            first | refine jj_inc rfl rfl ?_ | refine jj_s (pc' := 59) rfl rfl ?_
            refine jj_s (pc' := 8) rfl rfl ?_
            refine jj_lv ?_ (ih (k + 1) (by omega) (by omega) (some (.int (rkN S F k (H k)))))
            rw [pkB_none hp c2]
            rfl
          | some b =>
            refine jj_icmp_eq 50 rfl rfl (fun c3 => absurd c3 (enc_ne (by have := (pkB_lt _ _ _ _ hp).1; omega))) (fun c3 => ?_)
            refine jj_s (pc' := 46) rfl rfl ?_
            refine jj_s (pc' := 47) rfl rfl ?_
            refine jj_icmp_le 56 rfl rfl (fun c4 => ?_) (fun c4 => ?_)
            · first | refine jj_inc rfl rfl ?_ | refine jj_s (pc' := 59) rfl rfl ?_
              refine jj_s (pc' := 8) rfl rfl ?_
              refine jj_lv ?_ (ih (k + 1) (by omega) (by omega) (some (.int (rkN S F k (H k)))))
              have c4 : ¬ rkN S F b (H b) < rkN S F k (H k) := Int32.not_lt.mpr c4
              rw [pkB_lose hp c4]
              rfl
            · refine jj_s (pc' := 52) rfl rfl ?_
              refine jj_s (pc' := 53) rfl rfl ?_
              refine jj_s (pc' := 55) rfl rfl ?_
              refine jj_s (pc' := 56) rfl rfl ?_
              first | refine jj_inc rfl rfl ?_ | refine jj_s (pc' := 59) rfl rfl ?_
              refine jj_s (pc' := 8) rfl rfl ?_
              refine jj_lv ?_ (ih (k + 1) (by omega) (by omega) (some (.int (rkN S F k (H k)))))
              have c4 : rkN S F b (H b) < rkN S F k (H k) := Int32.not_le.mp c4
              rw [pkB_win hp c2 c4]
              rfl
  exact L (N + 1) 0 (by omega) (by omega) none
/-- the state that follows from the edges -/
def due (F : Nat → Nat → Int32) (N i : Nat) : Int32 := if anyN (fun p => bt (F 11 i) p && decide (3 < F 5 p)) N = true then 5 else if anyN (fun p => bt (prd F i) p && !decide (3 ≤ F 5 p)) N = true then 0 else 1
set_option maxHeartbeats 4000000 in
set_option maxRecDepth 100000 in
 theorem c_stateByEdges {G : GC} {B n : Nat} {h : HT} {q N : Nat} {S : Nat → Int32} {F : Nat → Nat → Int32} (hN : N ≤ 20) {i : Nat} (hi : i < 20) : CtJ G B M5_stateByEdges [.ref (B + q), .int (nI i)] n (wQ B q N S F h) 0 0 (eqP (some (.int (due F N i))) n (wQ B q N S F h)) := by
  unfold CtJ
  refine jj_lv (lv' := [some (.ref (B + q)), some (.int (nI i)), none, none]) rfl ?_
  refine jj_s (pc' := 1) rfl rfl ?_
  refine jj_s (pc' := 2) rfl rfl ?_
  refine jj_s (pc' := 3) rfl rfl ?_
  refine jj_s (pc' := 4) rfl rfl ?_
  have L : ∀ d k, k ≤ N → N + 1 ≤ k + d → anyN (fun p => bt (F 11 i) p && decide (3 < F 5 p)) k = false → JJ X0 G B M5_stateByEdges 4 [some (.ref (B + q)), some (.int (nI i)), some (.int (if anyN (fun p => bt (prd F i) p && !decide (3 ≤ F 5 p)) k = true then 0 else 1)), some (.int (nI k))] [] n (wQ B q N S F h) 0 0 (eqP (some (.int (due F N i))) n (wQ B q N S F h)) := by
    intro d
    induction d with
    | zero => intro k h1 h2; exact absurd h2 (by omega)
    | succ d ih =>
      intro k h1 h2 h3
      refine jj_s (pc' := 5) rfl rfl ?_
      refine jj_s (pc' := 6) rfl rfl ?_
      refine jj_g rfl rfl wQ_o rfl ?_
      refine jj_geN 63 rfl rfl (by omega) (by omega) (fun c => ?_) (fun c => ?_)
      · refine jj_s (pc' := 64) rfl rfl ?_
        exact jj_iret rfl rfl ⟨by rw [show k = N by omega] at h3 ⊢; simp [due, h3], rfl, rfl⟩
      · refine jj_s (pc' := 13) rfl rfl ?_
        refine jj_g rfl rfl wQ_o rfl ?_
        refine jj_s (pc' := 17) rfl rfl ?_
        refine jj_qld [] rfl rfl (by decide) (by first | assumption | omega) ?_
        refine jj_s (pc' := 19) rfl rfl ?_
        refine jj_t2 rfl rfl rfl rfl rfl (c_has (by omega)) ?_
        have A : (anyN (fun p => bt (F 11 i) p && decide (3 < F 5 p)) (k + 1) = false) → JJ X0 G B M5_stateByEdges 35 [some (.ref (B + q)), some (.int (nI i)), some (.int (if anyN (fun p => bt (prd F i) p && !decide (3 ≤ F 5 p)) k = true then 0 else 1)), some (.int (nI k))] [] n (wQ B q N S F h) 0 0 (eqP (some (.int (due F N i))) n (wQ B q N S F h)) := by
          intro h4
          refine jj_s (pc' := 36) rfl rfl ?_
          refine jj_s (pc' := 37) rfl rfl ?_
          refine jj_v1 rfl rfl rfl wQ_o rfl rfl (c_predecessors hi) ?_
          refine jj_s (pc' := 41) rfl rfl ?_
          refine jj_t2 rfl rfl rfl rfl rfl (c_has (by omega)) ?_
          refine jj_zT 57 rfl rfl (fun c5 => ?_) (fun c5 => ?_)
          · first | refine jj_inc rfl rfl ?_ | refine jj_s (pc' := 60) rfl rfl ?_
            refine jj_s (pc' := 4) rfl rfl ?_
            refine jj_lv ?_ (ih (k + 1) (by omega) (by omega) h4)
            simp [anyN, c5]
          · refine jj_s (pc' := 48) rfl rfl ?_
            refine jj_s (pc' := 49) rfl rfl ?_
            refine jj_v1 rfl rfl rfl wQ_o rfl rfl (c_hasEnded (by omega)) ?_
            refine jj_zF 57 rfl rfl (fun c6 => ?_) (fun c6 => ?_)
            · first | refine jj_inc rfl rfl ?_ | refine jj_s (pc' := 60) rfl rfl ?_
              refine jj_s (pc' := 4) rfl rfl ?_
              refine jj_lv ?_ (ih (k + 1) (by omega) (by omega) h4)
              simp only [anyN, c5, c6, Bool.not_true, Bool.and_false, Bool.or_false, List.set_cons_succ, List.set_cons_zero]
            · refine jj_s (pc' := 56) rfl rfl ?_
              refine jj_s (pc' := 57) rfl rfl ?_
              first | refine jj_inc rfl rfl ?_ | refine jj_s (pc' := 60) rfl rfl ?_
              refine jj_s (pc' := 4) rfl rfl ?_
              refine jj_lv ?_ (ih (k + 1) (by omega) (by omega) h4)
              simp only [anyN, c5, c6, Bool.not_false, Bool.and_true, Bool.or_true, if_true]
              rfl
        refine jj_zT 35 rfl rfl (fun c2 => ?_) (fun c2 => ?_)
        · exact A (by simp [anyN, h3, c2])
        · refine jj_s (pc' := 26) rfl rfl ?_
          refine jj_s (pc' := 27) rfl rfl ?_
          refine jj_v1 rfl rfl rfl wQ_o rfl rfl (c_hasFailed (by omega)) ?_
          refine jj_zT 35 rfl rfl (fun c3 => ?_) (fun c3 => ?_)
          · exact A (by simp only [anyN, h3, c3, Bool.and_false, Bool.or_false])
          · refine jj_s (pc' := 34) rfl rfl ?_
            refine jj_iret rfl rfl ⟨?_, rfl, rfl⟩
            have : anyN (fun p => bt (F 11 i) p && decide (3 < F 5 p)) N = true := (anyN_iff _ _).mpr ⟨k, c, by simp only [c2, c3, Bool.and_true]⟩
            rw [due, if_pos this]
            rfl
  exact L (N + 1) 0 (by omega) (by omega) rfl
/-- one item is settled -/
def si (S : Nat → Int32) (N : Nat) (F : Nat → Nat → Int32) (i : Nat) : (Nat → Nat → Int32) × Bool :=
  if F 5 i = 0 ∨ F 5 i = 1 then if due F N i = F 5 i then (F, false) else if due F N i = 1 then (uF (uF (uF F 5 i 1) 6 i (S 1 + F 4 i)) 7 i (S 1), true) else (uF F 5 i (due F N i), true) else (F, false)
set_option maxHeartbeats 4000000 in
set_option maxRecDepth 100000 in
 theorem c_settleItem {G : GC} {B n : Nat} {h : HT} {q N : Nat} {S : Nat → Int32} {F : Nat → Nat → Int32} (hN : N ≤ 20) {i : Nat} (hi : i < 20) : CtJ G B M5_settleItem [.ref (B + q), .int (nI i)] n (wQ B q N S F h) 0 0 (eqP (some (.int (bI (si S N F i).2))) n (wQ B q N S (si S N F i).1 h)) := by
  unfold CtJ
  refine jj_lv (lv' := [some (.ref (B + q)), some (.int (nI i)), none]) rfl ?_
  refine jj_s (pc' := 1) rfl rfl ?_
  refine jj_s (pc' := 2) rfl rfl ?_
  refine jj_v1 rfl rfl rfl wQ_o rfl rfl (c_followsEdges hi) ?_
  refine jj_zF 10 rfl rfl (fun c1 => ?_) (fun c1 => ?_)
  · have c1 : F 5 i = 0 ∨ F 5 i = 1 := of_decide_eq_true c1
    refine jj_s (pc' := 11) rfl rfl ?_
    refine jj_s (pc' := 12) rfl rfl ?_
    refine jj_v1 rfl rfl rfl wQ_o rfl rfl (c_stateByEdges hN hi) ?_
    refine jj_s (pc' := 16) rfl rfl ?_
    refine jj_s (pc' := 17) rfl rfl ?_
    refine jj_s (pc' := 18) rfl rfl ?_
    refine jj_g rfl rfl wQ_o rfl ?_
    refine jj_s (pc' := 22) rfl rfl ?_
    refine jj_qld [] rfl rfl (by decide) (by first | assumption | omega) ?_
    refine jj_icmp_ne 28 rfl rfl (fun c2 => ?_) (fun c2 => ?_)
    · refine jj_s (pc' := 29) rfl rfl ?_
      refine jj_s (pc' := 30) rfl rfl ?_
      refine jj_icmp_ne 47 rfl rfl (fun (c3 : ¬ due F N i = 1) => ?_) (fun (c3 : due F N i = 1) => ?_)
      · refine jj_s (pc' := 48) rfl rfl ?_
        refine jj_g rfl rfl wQ_o rfl ?_
        refine jj_s (pc' := 52) rfl rfl ?_
        refine jj_s (pc' := 53) rfl rfl ?_
        refine jj_qst [] rfl rfl (by decide) (by first | assumption | omega) ?_
        refine jj_s (pc' := 55) rfl rfl ?_
        have e : si S N F i = (uF F 5 i (due F N i), true) := by rw [si, if_pos c1, if_neg c2, if_neg c3]
        exact jj_zret rfl rfl (Or.inr rfl) ⟨by rw [e]; rfl, rfl, by rw [e]⟩
      · refine jj_s (pc' := 34) rfl rfl ?_
        refine jj_s (pc' := 35) rfl rfl ?_
        refine jj_s (pc' := 36) rfl rfl ?_
        refine jj_g rfl rfl wQ_o rfl ?_
        refine jj_s (pc' := 40) rfl rfl ?_
        refine jj_qld [] rfl rfl (by decide) (by first | assumption | omega) ?_
        refine jj_w2 rfl rfl rfl wQ_o rfl rfl (c_makeReady hi _) ?_
        refine jj_s (pc' := 54) rfl rfl ?_
        refine jj_s (pc' := 55) rfl rfl ?_
        have e : si S N F i = (uF (uF (uF F 5 i 1) 6 i (S 1 + F 4 i)) 7 i (S 1), true) := by rw [si, if_pos c1, if_neg c2, if_pos c3]
        exact jj_zret rfl rfl (Or.inr rfl) ⟨by rw [e]; rfl, rfl, by rw [e]⟩
    · refine jj_s (pc' := 27) rfl rfl ?_
      have e : si S N F i = (F, false) := by rw [si, if_pos c1, if_pos c2]
      exact jj_zret rfl rfl (Or.inl rfl) ⟨by rw [e]; rfl, rfl, by rw [e]⟩
  · have c1 : ¬ (F 5 i = 0 ∨ F 5 i = 1) := of_decide_eq_false c1
    refine jj_s (pc' := 9) rfl rfl ?_
    have e : si S N F i = (F, false) := by rw [si, if_neg c1]
    exact jj_zret rfl rfl (Or.inl rfl) ⟨by rw [e]; rfl, rfl, by rw [e]⟩
/-- one pass over the first k items; and passes until nothing changes -/
def pas (S : Nat → Int32) (N : Nat) (F : Nat → Nat → Int32) : Nat → (Nat → Nat → Int32) × Bool
  | 0 => (F, false)
  | k + 1 => ((si S N (pas S N F k).1 k).1, (pas S N F k).2 || (si S N (pas S N F k).1 k).2)
def stl (S : Nat → Int32) (N : Nat) : Nat → (Nat → Nat → Int32) → (Nat → Nat → Int32)
  | 0, F => F
  | m + 1, F => if (pas S N F N).2 = true then stl S N m (pas S N F N).1 else (pas S N F N).1
set_option maxHeartbeats 4000000 in
set_option maxRecDepth 100000 in
 theorem c_settle {G : GC} {B n : Nat} {h : HT} {q N : Nat} {S : Nat → Int32} {F : Nat → Nat → Int32} (hN : N ≤ 20) : CtJ G B M5_settle [.ref (B + q)] n (wQ B q N S F h) 0 0 (eqP none n (wQ B q N S (stl S N 1000 F) h)) := by
  unfold CtJ
  refine jj_lv (lv' := [some (.ref (B + q)), none, none, none]) rfl ?_
  refine jj_s (pc' := 1) rfl rfl ?_
  refine jj_s (pc' := 2) rfl rfl ?_
  refine jj_s (pc' := 3) rfl rfl ?_
  refine jj_s (pc' := 4) rfl rfl ?_
  have L : ∀ m (F : Nat → Nat → Int32) z, m ≤ 1000 → JJ X0 G B M5_settle 4 [some (.ref (B + q)), some (.int 1), some (.int (nI (1000 - m))), z] [] n (wQ B q N S F h) 0 0 (eqP none n (wQ B q N S (stl S N m F) h)) := by
    intro m
    induction m with
    | zero =>
      intro F z h0
      refine jj_s (pc' := 5) rfl rfl ?_
      refine jj_if_eq 49 rfl rfl (fun c => absurd c (by decide)) (fun c => ?_)
      refine jj_s (pc' := 9) rfl rfl ?_
      refine jj_s (pc' := 12) rfl rfl ?_
      refine jj_icmp_ge 49 rfl rfl (fun c => ?_) (fun c => absurd (by decide) c)
      exact jj_vret rfl rfl ⟨rfl, rfl, rfl⟩
    | succ m ihm =>
      intro F z h0
      refine jj_s (pc' := 5) rfl rfl ?_
      refine jj_if_eq 49 rfl rfl (fun c => absurd c (by decide)) (fun c => ?_)
      refine jj_s (pc' := 9) rfl rfl ?_
      refine jj_s (pc' := 12) rfl rfl ?_
      refine jj_icmp_ge 49 rfl rfl (fun c => absurd ((nI_leI (a := 1000) (b := 1000 - (m + 1)) (by omega) (by omega)).mp c) (by omega)) (fun c => ?_)
      refine jj_s (pc' := 16) rfl rfl ?_
      refine jj_s (pc' := 17) rfl rfl ?_
      refine jj_s (pc' := 18) rfl rfl ?_
      refine jj_s (pc' := 19) rfl rfl ?_
      have L2 : ∀ d k, k ≤ N → N + 1 ≤ k + d → JJ X0 G B M5_settle 19 [some (.ref (B + q)), some (.int (bI (pas S N F k).2)), some (.int (nI (1000 - (m + 1)))), some (.int (nI k))] [] n (wQ B q N S (pas S N F k).1 h) 0 0 (eqP none n (wQ B q N S (stl S N (m + 1) F) h)) := by
        intro d
        induction d with
        | zero => intro k h1 h2; exact absurd h2 (by omega)
        | succ d ih =>
          intro k h1 h2
          refine jj_s (pc' := 20) rfl rfl ?_
          refine jj_s (pc' := 21) rfl rfl ?_
          refine jj_g rfl rfl wQ_o rfl ?_
          refine jj_geN 43 rfl rfl (by omega) (by omega) (fun c => ?_) (fun c => ?_)
          · have hk : k = N := by omega
            subst hk
            first | refine jj_inc rfl rfl ?_ | refine jj_s (pc' := 46) rfl rfl ?_
            refine jj_s (pc' := 4) rfl rfl ?_
            cases hb : (pas S k F k).2 with
            | true =>
              have e : stl S k (m + 1) F = stl S k m (pas S k F k).1 := by rw [stl, if_pos hb]
              rw [e]
              rw [show 1000 - (m + 1) + 1 = 1000 - m by omega]
              exact ihm (pas S k F k).1 _ (by omega)
            | false =>
              have e : stl S k (m + 1) F = (pas S k F k).1 := by rw [stl, if_neg (by rw [hb]; decide)]
              rw [e]
              refine jj_s (pc' := 5) rfl rfl ?_
              refine jj_if_eq 49 rfl rfl (fun c => ?_) (fun c => absurd rfl c)
              exact jj_vret rfl rfl ⟨rfl, rfl, rfl⟩
          · refine jj_s (pc' := 28) rfl rfl ?_
            refine jj_s (pc' := 29) rfl rfl ?_
            refine jj_v1 rfl rfl rfl wQ_o rfl rfl (c_settleItem hN (by omega)) ?_
            refine jj_zT 37 rfl rfl (fun c3 => ?_) (fun c3 => ?_)
            · first | refine jj_inc rfl rfl ?_ | refine jj_s (pc' := 40) rfl rfl ?_
              refine jj_s (pc' := 19) rfl rfl ?_
              refine jj_lv ?_ (ih (k + 1) (by omega) (by omega))
              simp [pas, c3]
            · refine jj_s (pc' := 36) rfl rfl ?_
              refine jj_s (pc' := 37) rfl rfl ?_
              first | refine jj_inc rfl rfl ?_ | refine jj_s (pc' := 40) rfl rfl ?_
              refine jj_s (pc' := 19) rfl rfl ?_
              refine jj_lv ?_ (ih (k + 1) (by omega) (by omega))
              simp [pas, c3, bI]
      exact L2 (N + 1) 0 (by omega) (by omega)
  exact L 1000 F none (by omega)
