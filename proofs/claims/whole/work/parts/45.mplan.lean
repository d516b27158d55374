/-! the reference's plan -/
def PA (F : Nat → Nat → Int32) (N : Nat) (st : Nat → Option Nat) (A : Nat → Nat → Int32) : Prop := ∀ i, i < N → A 8 i = enc (st i) ∧ A 9 i = enc ((st i).map (fun s => s + wkN F i))
theorem mxN_skip {P : Nat → Bool} {g : Nat → Nat} {k : Nat} (h : ¬ P k = true) : mxN P g (k + 1) = mxN P g k := by rw [mxN, if_neg h]
theorem mxN_congP {P P' : Nat → Bool} {g : Nat → Nat} {k : Nat} (h : ∀ i, i < k → P i = P' i) : mxN P g k = mxN P' g k := by
  induction k with
  | zero => rfl
  | succ k ih => unfold mxN; rw [ih (fun i hi => h i (by omega)), h k (by omega)]
theorem anyN_no {P : Nat → Bool} {k : Nat} (h1 : anyN P k = false) (h2 : P k = false) : anyN P (k + 1) = false := by rw [anyN, h1, h2]; rfl
set_option maxHeartbeats 4000000 in
set_option maxRecDepth 100000 in
 theorem c9_possibleAt {G : GC} {B n m : Nat} {A : Nat → Nat → Int32} {Wy : Nat → Int64} {V : Nat → Int32} {h : HT} {N : Nat} {S : Nat → Int32} {F : Nat → Nat → Int32} {st : Nat → Option Nat} {t : Nat} (hN : N ≤ 20) (hm : MW N S F (A 0)) (hw : Wk F N) (hA : PA F N st A) (hs : ∀ i s, st i = some s → s ≤ 2000) (ht : t ≤ 2000) {i : Nat} (hi : i < N) : CtJ G B M9_possibleAt [.ref (B + m), .int (nI i), .int (nI t)] n (wM B m A Wy V h) 0 0 (eqP (some (.int (if psB (opF F) (edg F) (wkN F) N st t i = true then nI (psT (opF F) (edg F) (wkN F) N st i) else -7))) n (wM B m A Wy V h)) := by
  have hw0 := hm.1
  unfold CtJ
  refine jj_lv (lv' := [some (.ref (B + m)), some (.int (nI i)), some (.int (nI t)), none, none]) rfl ?_
  refine jj_s (pc' := 1) rfl rfl ?_
  refine jj_s (pc' := 2) rfl rfl ?_
  refine jj_s (pc' := 3) rfl rfl ?_
  refine jj_s (pc' := 5) rfl rfl ?_
  have hle : ∀ k, k ≤ N → mxN (fun p => edg F p i && opF F p) (enS (wkN F) st) k ≤ 2020 := fun k hk => mxN_le (fun p hp _ => by
    have := (hw p (by omega)).2
    unfold enS
    cases hst : st p with
    | none => simp; omega
    | some s => have := hs p s hst; simp; omega)
  have L1 : ∀ d k, k ≤ N → N + 1 ≤ k + d → anyN (fun p => edg F p i && (opF F p && !dn (wkN F) st t p)) k = false → JJ X0 G B M9_possibleAt 5 [some (.ref (B + m)), some (.int (nI i)), some (.int (nI t)), some (.int (nI (mxN (fun p => edg F p i && opF F p) (enS (wkN F) st) k))), some (.int (nI k))] [] n (wM B m A Wy V h) 0 0 (eqP (some (.int (if psB (opF F) (edg F) (wkN F) N st t i = true then nI (psT (opF F) (edg F) (wkN F) N st i) else -7))) n (wM B m A Wy V h)) := by
    intro d
    induction d with
    | zero => intro k h1 h2; exact absurd h2 (by omega)
    | succ d ih =>
      intro k h1 h2 hno
      refine jj_s (pc' := 7) rfl rfl ?_
      refine jj_s (pc' := 8) rfl rfl ?_
      refine jj_g rfl rfl wM_o rfl ?_
      refine jj_s (pc' := 12) rfl rfl ?_
      refine jj_m0 hw0 rfl ?_
      refine jj_geN 90 rfl rfl (by omega) (by omega) (fun c => ?_) (fun c => ?_)
      · have hkN : k = N := by omega
        subst hkN
        refine jj_s (pc' := 91) rfl rfl ?_
        exact jj_iret rfl rfl ⟨by rw [if_pos (by unfold psB; rw [hno]; rfl)]; rfl, rfl, rfl⟩
      · have skip : (edg F k i && opF F k) = false → JJ X0 G B M9_possibleAt 84 [some (.ref (B + m)), some (.int (nI i)), some (.int (nI t)), some (.int (nI (mxN (fun p => edg F p i && opF F p) (enS (wkN F) st) k))), some (.int (nI k))] [] n (wM B m A Wy V h) 0 0 (eqP (some (.int (if psB (opF F) (edg F) (wkN F) N st t i = true then nI (psT (opF F) (edg F) (wkN F) N st i) else -7))) n (wM B m A Wy V h)) := by
          intro hz
          first | refine jj_inc rfl rfl ?_ | refine jj_s (pc' := 87) rfl rfl ?_
          refine jj_s (pc' := 5) rfl rfl ?_
          refine jj_lv ?_ (ih (k + 1) (by omega) (by omega) (anyN_no hno (by rw [← Bool.and_assoc, hz]; rfl)))
          rw [mxN_skip (by rw [hz]; decide)]; rfl
        refine jj_s (pc' := 17) rfl rfl ?_
        refine jj_s (pc' := 19) rfl rfl ?_
        refine jj_s (pc' := 20) rfl rfl ?_
        refine jj_v2 rfl rfl rfl wM_o rfl rfl (c9_kindOf (by omega) (by omega)) ?_
        rw [hm.2.2.2 k i c hi]
        refine jj_if_lt 84 rfl rfl (fun c4 => skip (by rw [show edg F k i = false from (kd_n F k i).mp c4]; rfl)) (fun c4 => ?_)
        have c4 := (kd_e F k i).mp c4
        refine jj_s (pc' := 27) rfl rfl ?_
        refine jj_s (pc' := 29) rfl rfl ?_
        refine jj_v1 rfl rfl rfl wM_o rfl rfl (c9_hasEnded (by omega)) ?_
        rw [(hm.2.2.1 k c).2.2.1]
        refine jj_zF 84 rfl rfl (fun c5 => skip (by rw [show opF F k = false by unfold opF; rw [c5]; rfl, Bool.and_false])) (fun c5 => ?_)
        have c5 : opF F k = true := by unfold opF; rw [c5]; rfl
        have no : dn (wkN F) st t k = false → psB (opF F) (edg F) (wkN F) N st t i = false := by
          intro hd
          unfold psB
          rw [(anyN_iff _ _).mpr ⟨k, c, by rw [c4, c5, hd]; rfl⟩]; rfl
        have hwk := (hw k c).2
        refine jj_s (pc' := 36) rfl rfl ?_
        refine jj_g rfl rfl wM_o rfl ?_
        refine jj_s (pc' := 41) rfl rfl ?_
        refine jj_mld 20 rfl rfl (by decide) (by first | assumption | omega) ?_
        refine jj_s (pc' := 44) rfl rfl ?_
        rw [(hA k c).2]
        cases hst : st k with
        | none =>
          refine jj_icmp_eq 58 rfl rfl (fun _ => ?_) (fun c6 => absurd rfl c6)
          refine jj_s (pc' := 60) rfl rfl ?_
          exact jj_iret rfl rfl ⟨by rw [if_neg (by rw [no (by unfold dn; rw [hst])]; decide)]; rfl, rfl, rfl⟩
        | some s =>
          have hsb := hs k s hst
          have e9 : A 9 k = nI (s + wkN F k) := by rw [(hA k c).2, hst]; rfl
          refine jj_icmp_eq 58 rfl rfl (fun c6 => absurd c6 (enc_ne (b := s + wkN F k) (by omega))) (fun c6 => ?_)
          refine jj_s (pc' := 48) rfl rfl ?_
          refine jj_g rfl rfl wM_o rfl ?_
          refine jj_s (pc' := 53) rfl rfl ?_
          refine jj_mld 20 rfl rfl (by decide) (by first | assumption | omega) ?_
          refine jj_s (pc' := 55) rfl rfl ?_
          rw [e9]
          refine jj_icmp_le 61 rfl rfl (fun c7 => ?_) (fun c7 => ?_)
          · have c7 := (nI_leI (by omega) (by omega)).mp c7
            have hd : dn (wkN F) st t k = true := by unfold dn; rw [hst]; exact decide_eq_true c7
            have hen : enS (wkN F) st k = s + wkN F k := by unfold enS; rw [hst]; rfl
            have ea : anyN (fun p => edg F p i && (opF F p && !dn (wkN F) st t p)) (k + 1) = false := anyN_no hno (by rw [hd]; simp)
            have em : mxN (fun p => edg F p i && opF F p) (enS (wkN F) st) (k + 1) = max (mxN (fun p => edg F p i && opF F p) (enS (wkN F) st) k) (s + wkN F k) := by rw [mxN, if_pos (by rw [c4, c5]; rfl), hen]
            have hl := hle k (by omega)
            refine jj_s (pc' := 62) rfl rfl ?_
            refine jj_g rfl rfl wM_o rfl ?_
            refine jj_s (pc' := 67) rfl rfl ?_
            refine jj_mld 20 rfl rfl (by decide) (by first | assumption | omega) ?_
            refine jj_s (pc' := 69) rfl rfl ?_
            rw [e9]
            refine jj_icmp_le 82 rfl rfl (fun c8 => ?_) (fun c8 => ?_)
            · have c8 := (nI_leI (by omega) (by omega)).mp c8
              refine jj_s (pc' := 83) rfl rfl ?_
              refine jj_s (pc' := 84) rfl rfl ?_
              first | refine jj_inc rfl rfl ?_ | refine jj_s (pc' := 87) rfl rfl ?_
              refine jj_s (pc' := 5) rfl rfl ?_
              refine jj_lv ?_ (ih (k + 1) (by omega) (by omega) ea)
              rw [em, Nat.max_eq_left c8]; rfl
            · have c8 : ¬ s + wkN F k ≤ mxN (fun p => edg F p i && opF F p) (enS (wkN F) st) k := fun z => c8 ((nI_leI (by omega) (by omega)).mpr z)
              refine jj_s (pc' := 73) rfl rfl ?_
              refine jj_g rfl rfl wM_o rfl ?_
              refine jj_s (pc' := 78) rfl rfl ?_
              refine jj_mld 20 rfl rfl (by decide) (by first | assumption | omega) ?_
              refine jj_s (pc' := 83) rfl rfl ?_
              refine jj_s (pc' := 84) rfl rfl ?_
              first | refine jj_inc rfl rfl ?_ | refine jj_s (pc' := 87) rfl rfl ?_
              refine jj_s (pc' := 5) rfl rfl ?_
              rw [e9]
              refine jj_lv ?_ (ih (k + 1) (by omega) (by omega) ea)
              rw [em, Nat.max_eq_right (by omega)]; rfl
          · have c7 : ¬ s + wkN F k ≤ t := fun z => c7 ((nI_leI (by omega) (by omega)).mpr z)
            refine jj_s (pc' := 60) rfl rfl ?_
            exact jj_iret rfl rfl ⟨by rw [if_neg (by rw [no (by unfold dn; rw [hst]; exact decide_eq_false c7)]; decide)]; rfl, rfl, rfl⟩
  exact L1 (N + 1) 0 (by omega) (by omega) rfl
set_option maxHeartbeats 4000000 in
set_option maxRecDepth 100000 in
 theorem c9_planRank {G : GC} {B n m : Nat} {A : Nat → Nat → Int32} {Wy : Nat → Int64} {V : Nat → Int32} {h : HT} {N : Nat} {S : Nat → Int32} {F : Nat → Nat → Int32} {st : Nat → Option Nat} {t : Nat} {pol : Int32} {hg : Nat → Int32} (hN : N ≤ 20) (hm : MW N S F (A 0)) (hw : Wk F N) (hA : PA F N st A) (hs : ∀ i s, st i = some s → s ≤ 2000) (ht : t ≤ 2000) {i : Nat} (hi : i < N) (h5 : A 5 i = hg i) (hp : psB (opF F) (edg F) (wkN F) N st t i = true) : CtJ G B M9_planRank [.ref (B + m), .int (nI i), .int pol, .int (nI t)] n (wM B m A Wy V h) 0 0 (eqP (some (.int (rkS (opF F) (edg F) (wkN F) N (plR F pol hg) st t i))) n (wM B m A Wy V h)) := by
  obtain ⟨g1, g2, g3, g4, g5, g6, g7⟩ := hm.2.2.1 i hi
  unfold CtJ
  refine jj_lv (lv' := [some (.ref (B + m)), some (.int (nI i)), some (.int pol), some (.int (nI t)), none]) rfl ?_
  refine jj_s (pc' := 2) rfl rfl ?_
  refine jj_s (pc' := 3) rfl rfl ?_
  refine jj_s (pc' := 4) rfl rfl ?_
  refine jj_s (pc' := 5) rfl rfl ?_
  refine jj_v2 rfl rfl rfl wM_o rfl rfl (c9_of (a := 0) (by omega) (by decide)) ?_
  rw [g1 0 (by omega)]
  refine jj_s (pc' := 9) rfl rfl ?_
  refine jj_s (pc' := 11) rfl rfl ?_
  refine jj_s (pc' := 12) rfl rfl ?_
  refine jj_s (pc' := 13) rfl rfl ?_
  refine jj_icmp_ne 28 rfl rfl (fun (c1 : ¬ pol = 1) => ?_) (fun (c1 : pol = 1) => ?_)
  · refine jj_s (pc' := 29) rfl rfl ?_
    refine jj_s (pc' := 30) rfl rfl ?_
    refine jj_icmp_ne 50 rfl rfl (fun (c2 : ¬ pol = 2) => ?_) (fun (c2 : pol = 2) => ?_)
    · refine jj_s (pc' := 52) rfl rfl ?_
      refine jj_iret rfl rfl ⟨?_, rfl, rfl⟩
      rw [rkS, plR, rkF, if_neg c1, if_neg c2, Int32.mul_comm (F 0 i)]; rfl
    · refine jj_s (pc' := 35) rfl rfl ?_
      refine jj_s (pc' := 37) rfl rfl ?_
      refine jj_s (pc' := 38) rfl rfl ?_
      refine jj_s (pc' := 39) rfl rfl ?_
      refine jj_s (pc' := 40) rfl rfl ?_
      refine jj_s (pc' := 41) rfl rfl ?_
      refine jj_v2 rfl rfl rfl wM_o rfl rfl (c9_possibleAt hN hm hw hA hs ht hi) ?_
      rw [if_pos hp]
      refine jj_s (pc' := 45) rfl rfl ?_
      refine jj_s (pc' := 46) rfl rfl ?_
      refine jj_s (pc' := 47) rfl rfl ?_
      refine jj_s (pc' := 52) rfl rfl ?_
      refine jj_iret rfl rfl ⟨?_, rfl, rfl⟩
      rw [rkS, plR, rkF, if_neg c1, if_pos c2, Int32.mul_comm (F 0 i)]; rfl
  · refine jj_s (pc' := 18) rfl rfl ?_
    refine jj_s (pc' := 19) rfl rfl ?_
    refine jj_g rfl rfl wM_o rfl ?_
    refine jj_s (pc' := 23) rfl rfl ?_
    refine jj_mld 20 rfl rfl (by decide) (by first | assumption | omega) ?_
    refine jj_s (pc' := 25) rfl rfl ?_
    refine jj_s (pc' := 52) rfl rfl ?_
    refine jj_iret rfl rfl ⟨?_, rfl, rfl⟩
    rw [h5, rkS, plR, rkF, if_pos c1, Int32.mul_comm (F 0 i)]; rfl
def plQ (B m n N : Nat) (F : Nat → Nat → Int32) (stF : Nat → Option Nat) (A : Nat → Nat → Int32) (Wy : Nat → Int64) (V : Nat → Int32) (h : HT) : Option Value → Nat → HT → Prop := fun r2 n2 h2 => r2 = some (.int (nI (mxN (opF F) (enS (wkN F) stF) N))) ∧ n2 = n ∧ ∃ A', h2 = wM B m A' Wy V h ∧ (∀ j, j < 4 → A' j = A j) ∧ ∀ i, i < N → A' 8 i = enc (stF i)
def opn (F : Nat → Nat → Int32) (st : Nat → Option Nat) (i : Nat) : Bool := opF F i && (st i).isNone
def lst (F : Nat → Nat → Int32) (N : Nat) (st : Nat → Option Nat) : Nat := mxN (fun i => (st i).isSome) (enS (wkN F) st) N
theorem lst_up {F : Nat → Nat → Int32} {N : Nat} {st : Nat → Option Nat} {b t : Nat} (hb : b < N) (hn : st b = none) : lst F N (va_up st b (some t)) = max (lst F N st) (t + wkN F b) := by
  unfold lst
  refine Nat.le_antisymm (mxN_le (fun i hi hp => ?_)) (Nat.max_le.mpr ⟨mxN_le (fun i hi hp => ?_), ?_⟩)
  · by_cases e : i = b
    · subst e; unfold enS; rw [va_up_s]; simp only [Option.getD_some]; omega
    · have hp : (va_up st b (some t) i).isSome = true := hp
      rw [va_up_n e] at hp
      have := mxN_ge (P := fun i => (st i).isSome) (g := enS (wkN F) st) hi hp
      unfold enS at this ⊢
      rw [va_up_n e]; omega
  · have e : i ≠ b := fun e => by
      have hp : (st i).isSome = true := hp
      rw [e, hn] at hp; cases hp
    have := mxN_ge (P := fun i => (va_up st b (some t) i).isSome) (g := enS (wkN F) (va_up st b (some t))) hi (by
      show (va_up st b (some t) i).isSome = true
      rw [va_up_n e]; exact hp)
    unfold enS at this ⊢
    rw [va_up_n e] at this; exact this
  · have := mxN_ge (P := fun i => (va_up st b (some t) i).isSome) (g := enS (wkN F) (va_up st b (some t))) hb (by
      show (va_up st b (some t) b).isSome = true
      rw [va_up_s]; rfl)
    have e : enS (wkN F) (va_up st b (some t)) b = t + wkN F b := by unfold enS; rw [va_up_s]; rfl
    rw [e] at this; exact this
theorem lst_le {F : Nat → Nat → Int32} {N : Nat} {st : Nat → Option Nat} (hw : Wk F N) (hs : ∀ i s, st i = some s → s ≤ 2000) : lst F N st ≤ 2020 := mxN_le (fun i hi _ => by
  have := (hw i hi).2
  unfold enS
  cases hst : st i with
  | none => simp; omega
  | some s => have := hs i s hst; simp; omega)
theorem opn_up {F : Nat → Nat → Int32} {N : Nat} {st : Nat → Option Nat} {b t : Nat} (hb : b < N) (hn : st b = none) (ho : opF F b = true) : cn (opn F st) N = cn (opn F (va_up st b (some t))) N + 1 := by
  refine cn_one hb (fun i _ hi => ?_) ?_ ?_
  · unfold opn; rw [va_up_n hi]
  · unfold opn; rw [va_up_s]; simp
  · unfold opn; rw [hn, ho]; rfl
