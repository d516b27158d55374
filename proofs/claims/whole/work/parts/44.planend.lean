/-! the class's plan as a whole -/
theorem nI_inj {a b : Nat} (ha : a < 2 ^ 31) (hb : b < 2 ^ 31) (h : nI a = nI b) : a = b := by
  have := congrArg Int32.toNatClampNeg h
  rw [nI_clamp ha, nI_clamp hb] at this
  exact this
section
variable {F : Nat → Nat → Int32} {N W T : Nat} {pol : Int32} {hg H : Nat → Int32}
theorem tk_mono {op : Nat → Bool} {E : Nat → Nat → Bool} {w : Nat → Nat} {N : Nat} {R : Nat → Int32 → Int32} {W : Nat} {t : Nat} (f : Nat) : ∀ st i s, st i = some s → tkS op E w N R W t f st i = some s := by
  induction f with
  | zero => intro st i s h; exact h
  | succ f ih =>
    intro st i s h
    by_cases c : cn (bsy w st t) N < W
    · cases hb : pkB (cdB op E w N st t) (rkS op E w N R st t) N with
      | none => rw [tkS, if_pos c, hb]; exact h
      | some b =>
        have hl := pkB_lt _ _ _ _ hb
        have hc := cd_at hl.2
        rw [tkS, if_pos c, hb]
        refine ih _ i s ?_
        rw [va_up_n (fun e => by rw [e, hc.2.1] at h; cases h)]
        exact h
    · rw [tkS, if_neg c]; exact h
theorem neL_at (hN : N ≤ 20) (hT : T ≤ 1000) (hk : Wk F N) {st : Nat → Option Nat} {V : Nat → Int32} {P : Nat → Nat → Int32} (hs : okS' (opF F) N st (T + 1)) (M : Md F N W st T V P) : ∀ k, k ≤ N → ∃ t, neL P V k = nI t ∧ t ≤ T + 20 ∧ ((t = T ∧ ∀ i, i < k → bsy (wkN F) st T i = false) ∨ (T < t ∧ (∃ i s, st i = some s ∧ s + wkN F i = t) ∧ ∀ i, i < k → bsy (wkN F) st T i = true → t ≤ enS (wkN F) st i)) := by
  obtain ⟨m0, m4, m6, m5, m7, m8, m9, m10⟩ := M
  intro k
  induction k with
  | zero => intro _; exact ⟨T, m0, by omega, Or.inl ⟨rfl, fun i hi => absurd hi (by omega)⟩⟩
  | succ k ih =>
    intro hkN
    obtain ⟨t, e, ht, hc⟩ := ih (by omega)
    have hb : bt (V 6) k = bsy (wkN F) st T k := by rw [m6, decide_eq_true (by omega : k < N)]; rfl
    cases hbk : bsy (wkN F) st T k with
    | false =>
      rw [neL, if_neg (fun z => by rw [hb, hbk] at z; cases z.1), e]
      refine ⟨t, rfl, ht, ?_⟩
      rcases hc with ⟨h1, h2⟩ | ⟨h1, h2, h3⟩
      · refine Or.inl ⟨h1, fun i hi => ?_⟩
        by_cases ei : i = k
        · subst ei; exact hbk
        · exact h2 i (by omega)
      · refine Or.inr ⟨h1, h2, fun i hi hbi => ?_⟩
        by_cases ei : i = k
        · subst ei; rw [hbk] at hbi; cases hbi
        · exact h3 i (by omega) hbi
    | true =>
      obtain ⟨s, hst⟩ : ∃ s, st k = some s := by
        cases hst : st k with
        | none => unfold bsy at hbk; rw [hst] at hbk; cases hbk
        | some s => exact ⟨s, rfl⟩
      have hlt : T < s + wkN F k := by
        unfold bsy at hbk; rw [hst] at hbk; exact of_decide_eq_true hbk
      have hsT := (hs k s hst).2.2
      have hwk := (hk k (by omega)).2
      have hP := (m10 k s hst).2
      have hen : enS (wkN F) st k = s + wkN F k := by unfold enS; rw [hst]; rfl
      rcases hc with ⟨h1, h2⟩ | ⟨h1, h2, h3⟩
      · rw [neL, if_pos ⟨by rw [hb, hbk], Or.inl (by rw [e, h1, m0])⟩, hP]
        refine ⟨_, rfl, by omega, Or.inr ⟨hlt, ⟨k, s, hst, rfl⟩, fun i hi hbi => ?_⟩⟩
        by_cases ei : i = k
        · subst ei; omega
        · rw [h2 i (by omega)] at hbi; cases hbi
      · by_cases c : s + wkN F k < t
        · rw [neL, if_pos ⟨by rw [hb, hbk], Or.inr (by rw [e, hP]; exact (nI_ltI (by omega) (by omega)).mpr c)⟩, hP]
          refine ⟨_, rfl, by omega, Or.inr ⟨hlt, ⟨k, s, hst, rfl⟩, fun i hi hbi => ?_⟩⟩
          by_cases ei : i = k
          · subst ei; omega
          · have := h3 i (by omega) hbi; omega
        · rw [neL, if_neg (fun z => ?_), e]
          · refine ⟨t, rfl, ht, Or.inr ⟨h1, h2, fun i hi hbi => ?_⟩⟩
            by_cases ei : i = k
            · subst ei; omega
            · exact h3 i (by omega) hbi
          · rw [e, m0, hP] at z
            rcases z.2 with q | q
            · have := nI_inj (by omega) (by omega) q; omega
            · exact c ((nI_ltI (by omega) (by omega)).mp q)
theorem mkL_stop {V : Nat → Int32} (h : V 4 ||| V 6 = 0) (P : Nat → Nat → Int32) (m : Nat) : mkL F N H pol m V P = (V, P) := by
  cases m with
  | zero => rfl
  | succ m => rw [mkL, if_pos h]
/-- how the plan ends -/
def PlE (F : Nat → Nat → Int32) (N : Nat) (pol : Int32) (hg : Nat → Int32) (W : Nat) (r : (Nat → Int32) × (Nat → Nat → Int32)) : Prop := ∃ tf T', tf ≤ 1001 ∧ (∀ i, i < N → opF F i = true → ∃ s, STF F N pol hg W tf i = some s ∧ s + wkN F i ≤ T' ∧ r.2 0 i = nI s) ∧ r.1 0 = nI T' ∧ (T' = 0 ∨ ∃ i s, STF F N pol hg W tf i = some s ∧ s + wkN F i = T')
theorem or_0 {x y : Int32} (h : x ||| y = 0) (i : Nat) : bt x i = false ∧ bt y i = false := by
  have := b_or x y i
  rw [h, b_0] at this
  exact Bool.or_eq_false_iff.mp this.symm
def lft (F : Nat → Nat → Int32) (st : Nat → Option Nat) (T i : Nat) : Bool := opF F i && ((st i).isNone || rn (wkN F) st T i)
theorem mkL_at {rk : Nat → Nat} (hN : N ≤ 20) (hW : W ≤ 6) (hW1 : 1 ≤ W) (hw : ∀ i, i < N → opF F i = true → 1 ≤ wkN F i) (hk : Wk F N) (hr : Up (edg F) N rk) (hH : ∀ i, i < N → H i = hg i) (m : Nat) : ∀ (T : Nat) (V : Nat → Int32) (P : Nat → Nat → Int32), T + 20 * m ≤ 1000 → Bg F N W (STF F N pol hg W T) T V P → cn (lft F (STF F N pol hg W T) T) N ≤ m → (T = 0 → cn (lft F (STF F N pol hg W T) T) N < m) → (T = 0 ∨ ∃ i s, STF F N pol hg W T i = some s ∧ s + wkN F i = T) → PlE F N pol hg W (mkL F N H pol m V P) := by
  have fin : ∀ (T : Nat) (V : Nat → Int32) (P : Nat → Nat → Int32), Bg F N W (STF F N pol hg W T) T V P → (∀ i, i < N → opF F i = true → (STF F N pol hg W T i).isNone = false ∧ rn (wkN F) (STF F N pol hg W T) T i = false) → (T = 0 ∨ ∃ i s, STF F N pol hg W T i = some s ∧ s + wkN F i = T) → T ≤ 1000 → PlE F N pol hg W (V, P) := by
    intro T V P M hall hT0 hT
    obtain ⟨m0, m4, m6, m5, m7, m8, m9, m10⟩ := M
    refine ⟨T, T, by omega, fun i hi ho => ?_, m0, hT0⟩
    obtain ⟨h1, h2⟩ := hall i hi ho
    cases hst : STF F N pol hg W T i with
    | none => rw [hst] at h1; cases h1
    | some s =>
      refine ⟨s, rfl, ?_, (m10 i s hst).1⟩
      unfold rn at h2
      rw [hst] at h2
      have := of_decide_eq_false h2
      omega
  induction m with
  | zero =>
    intro T V P hb M h0 h1 hT0
    refine fin T V P M (fun i hi ho => ?_) hT0 (by omega)
    have := cn_z (by omega : cn (lft F (STF F N pol hg W T) T) N = 0) i hi
    unfold lft at this
    rw [ho, Bool.true_and, Bool.or_eq_false_iff] at this
    exact this
  | succ m ih =>
    intro T V P hb M h0 h1 hT0
    by_cases hz : V 4 ||| V 6 = 0
    · rw [mkL_stop hz]
      refine fin T V P M (fun i hi ho => ?_) hT0 (by omega)
      have h2 := or_0 hz i
      rw [M.2.1, M.2.2.1, decide_eq_true hi, ho] at h2
      exact h2
    · have hok : okS' (opF F) N (STF F N pol hg W T) T := ST_ok (op := opF F) (E := edg F) (w := wkN F) (R := plR F pol hg) (W := W) hw T
      have M1 := fs_at hN (by omega) hk hok M
      have M2 := sIL_tk (pol := pol) (hg := hg) (H := H) hN hW hw hk hH 6 _ _ _ M1
      have hok' : okS' (opF F) N (STF F N pol hg W (T + 1)) (T + 1) := ST_ok (op := opF F) (E := edg F) (w := wkN F) (R := plR F pol hg) (W := W) hw (T + 1)
      have mono : ∀ i s, STF F N pol hg W T i = some s → STF F N pol hg W (T + 1) i = some s := fun i s h => tk_mono 6 _ i s h
      have tend := tk_end (op := opF F) (E := edg F) (w := wkN F) (R := plR F pol hg) (W := W) hw (t := T) 6 (STF F N pol hg W T) (by omega)
      have e1 : mkL F N H pol (m + 1) V P = mkL F N H pol m (mk1 F N H pol V P).1 (mk1 F N H pol V P).2 := by rw [mkL, if_neg hz]
      have e2 : mk1 F N H pol V P = (upd (sIL F N H pol 6 (fsS F N (ec P V N) P).1 (fsS F N (ec P V N) P).2).1 0 (neL (sIL F N H pol 6 (fsS F N (ec P V N) P).1 (fsS F N (ec P V N) P).2).2 (sIL F N H pol 6 (fsS F N (ec P V N) P).1 (fsS F N (ec P V N) P).2).1 N), (sIL F N H pol 6 (fsS F N (ec P V N) P).1 (fsS F N (ec P V N) P).2).2) := rfl
      rw [e1, e2]
      clear e1 e2
      generalize (sIL F N H pol 6 (fsS F N (ec P V N) P).1 (fsS F N (ec P V N) P).2).1 = V2 at M2 ⊢
      generalize (sIL F N H pol 6 (fsS F N (ec P V N) P).1 (fsS F N (ec P V N) P).2).2 = P2 at M2 ⊢
      have est : tkF F N pol hg W T 6 (STF F N pol hg W T) = STF F N pol hg W (T + 1) := rfl
      rw [est] at M2
      have tend : W ≤ cn (bsy (wkN F) (STF F N pol hg W (T + 1)) T) N ∨ ∀ i, i < N → cdB (opF F) (edg F) (wkN F) N (STF F N pol hg W (T + 1)) T i = false := tend
      obtain ⟨t, et, ht, hcase⟩ := neL_at hN (by omega) hk hok' M2 N (Nat.le_refl _)
      have M2' := M2
      obtain ⟨m0, m4, m6, m5, m7, m8, m9, m10⟩ := M2
      rcases hcase with ⟨h2, h3⟩ | ⟨h2, ⟨i0, s0, hi0, he0⟩, h4⟩
      · -- nothing runs: all have begun
        have hz0 : cn (bsy (wkN F) (STF F N pol hg W (T + 1)) T) N = 0 := by
          have := cn_mono (P := bsy (wkN F) (STF F N pol hg W (T + 1)) T) (Q := fun _ => false) (k := N) (fun j hj hp => by rw [h3 j hj] at hp; cases hp)
          have e0 : ∀ k, cn (fun _ => false) k = 0 := fun k => by
            induction k with
            | zero => rfl
            | succ k ihk => rw [cn, ihk, if_neg (by decide)]
          rw [e0] at this
          omega
        have hnc := tend.resolve_left (by omega)
        have hbg := all_begun hr h3 hnc
        have z4 : V2 4 ||| V2 6 = 0 := b_ext fun i _ => by
          rw [b_or, m4, m6, b_0]
          by_cases hi : i < N
          · rw [h3 i hi]
            cases ho : opF F i with
            | false => simp
            | true =>
              cases hst : STF F N pol hg W (T + 1) i with
              | none => exact absurd hst (hbg i hi ho)
              | some s => simp
          · rw [decide_eq_false hi]; rfl
        rw [mkL_stop (V := upd V2 0 (neL P2 V2 N)) (by rw [pk_un (by omega), pk_un (by omega)]; exact z4)]
        refine ⟨T + 1, T, by omega, fun i hi ho => ?_, ?_, ?_⟩
        · cases hst : STF F N pol hg W (T + 1) i with
          | none => exact absurd hst (hbg i hi ho)
          | some s =>
            refine ⟨s, rfl, ?_, (m10 i s hst).1⟩
            have := h3 i hi
            unfold bsy at this
            rw [hst] at this
            have := of_decide_eq_false this
            omega
        · show upd V2 0 (neL P2 V2 N) 0 = _
          rw [pk_us, et, h2]
        · exact hT0.imp id (fun ⟨i, s, q1, q2⟩ => ⟨i, s, mono i s q1, q2⟩)
      · -- on to the next end
        have split : ∀ i s, STF F N pol hg W (T + 1) i = some s → s + wkN F i ≤ T ∨ t ≤ s + wkN F i := by
          intro i s hst
          rcases Nat.lt_or_ge T (s + wkN F i) with q | q
          · right
            have hb : bsy (wkN F) (STF F N pol hg W (T + 1)) T i = true := by unfold bsy; rw [hst]; exact decide_eq_true q
            have := h4 i (hok' i s hst).1 hb
            unfold enS at this
            rw [hst] at this
            exact this
          · exact Or.inl q
        have est : STF F N pol hg W t = STF F N pol hg W (T + 1) := by
          have := ST_idle (op := opF F) (E := edg F) (w := wkN F) (R := plR F pol hg) (W := W) hw hW (t := T) (t - (T + 1)) (fun i s hst => (split i s hst).imp id (fun z => by omega))
          rw [show T + 1 + (t - (T + 1)) = t by omega] at this
          exact this
        have rb : ∀ i, rn (wkN F) (STF F N pol hg W (T + 1)) t i = bsy (wkN F) (STF F N pol hg W (T + 1)) T i := by
          intro i
          unfold rn bsy
          cases hst : STF F N pol hg W (T + 1) i with
          | none => rfl
          | some s =>
            dsimp only
            have := split i s hst
            rw [decide_eq_decide]
            omega
        have dd : ∀ i, dn (wkN F) (STF F N pol hg W (T + 1)) (t - 1) i = dn (wkN F) (STF F N pol hg W (T + 1)) T i := by
          intro i
          unfold dn
          cases hst : STF F N pol hg W (T + 1) i with
          | none => rfl
          | some s =>
            dsimp only
            have := split i s hst
            rw [decide_eq_decide]
            omega
        have hcd : ∀ i, cdB (opF F) (edg F) (wkN F) N (STF F N pol hg W (T + 1)) T i = (opF F i && ((STF F N pol hg W (T + 1) i).isNone && (decide (1 ≤ t) && psB (opF F) (edg F) (wkN F) N (STF F N pol hg W (T + 1)) (t - 1) i))) := by
          intro i
          rw [← dn_cd dd, decide_eq_true (by omega : 1 ≤ t), Bool.true_and]
          rfl
        have hB : Bg F N W (STF F N pol hg W t) t (upd V2 0 (neL P2 V2 N)) P2 := by
          rw [est]
          refine ⟨by rw [pk_us, et], fun i => by rw [pk_un (by omega)]; exact m4 i, fun i => by rw [pk_un (by omega), m6, rb], fun i => by rw [pk_un (by omega), m5, hcd], ?_, ?_, fun i hi hc => ?_, m10⟩
          · rw [cn_cong (fun i _ => rb i)]; exact m7
          · rw [pk_un (by omega), cn_cong (fun i _ => rb i)]; exact m8
          · rw [pk_un (by omega), m5, decide_eq_true hi] at hc
            exact m9 i hi hc
        have sub : ∀ i, i < N → lft F (STF F N pol hg W t) t i = true → lft F (STF F N pol hg W T) T i = true := by
          intro i hi h
          rw [est] at h
          unfold lft at h ⊢
          rw [Bool.and_eq_true] at h ⊢
          refine ⟨h.1, ?_⟩
          cases hst : STF F N pol hg W T i with
          | none => rfl
          | some s =>
            have h5 := h.2
            unfold rn at h5 ⊢
            rw [mono i s hst] at h5
            rw [hst]
            have h5 : decide (t ≤ s + wkN F i) = true := h5
            have := of_decide_eq_true h5
            show decide (T ≤ s + wkN F i) = true
            exact decide_eq_true (by omega)
        refine ih t _ _ (by omega) hB ?_ (fun q => by omega) (Or.inr ⟨i0, s0, by rw [est]; exact hi0, he0⟩)
        rcases hT0 with q | ⟨j, sj, q1, q2⟩
        · have := h1 q
          have := cn_mono sub
          omega
        · have hj := hok j sj q1
          have : cn (lft F (STF F N pol hg W t) t) N < cn (lft F (STF F N pol hg W T) T) N := by
            refine cn_lt sub hj.1 ?_ ?_
            · unfold lft rn
              rw [hj.2.1, q1]
              show (false || decide (T ≤ sj + wkN F j)) = true
              rw [decide_eq_true (by omega)]; rfl
            · rw [est]
              unfold lft rn
              rw [mono j sj q1]
              show (opF F j && (false || decide (t ≤ sj + wkN F j))) = false
              rw [decide_eq_false (by omega)]; simp
          omega
theorem lt3 {x : Int32} (h0 : 0 ≤ x) (h3 : ¬ 3 ≤ x) : x = 0 ∨ x = 1 ∨ x = 2 := by
  obtain ⟨j, hj, rfl⟩ := nI_of (Int32.not_lt.mpr h0)
  have : j < 3 := by
    rcases Nat.lt_or_ge j 3 with q | q
    · exact q
    · exact absurd ((nI_leI (a := 3) (b := j) (by omega) hj).mpr q) h3
  rcases (by omega : j = 0 ∨ j = 1 ∨ j = 2) with rfl | rfl | rfl
  · exact Or.inl rfl
  · exact Or.inr (Or.inl rfl)
  · exact Or.inr (Or.inr rfl)
theorem bt_une (hN : N ≤ 20) (hs : ∀ i, i < N → 0 ≤ F 5 i) (i : Nat) : bt (une F N) i = (decide (i < N) && opF F i) := by
  unfold une
  rw [b_or, b_or, bt_msk _ (by omega), bt_msk _ (by omega), bt_msk _ (by omega)]
  by_cases hi : i < N
  · rw [decide_eq_true hi]
    by_cases h3 : 3 ≤ F 5 i
    · have : opF F i = false := by unfold opF; rw [decide_eq_true h3]; rfl
      rw [this]
      have n0 : ¬ F 5 i = 0 := fun q => by rw [q] at h3; exact absurd h3 (by decide)
      have n1 : ¬ F 5 i = 1 := fun q => by rw [q] at h3; exact absurd h3 (by decide)
      have n2 : ¬ F 5 i = 2 := fun q => by rw [q] at h3; exact absurd h3 (by decide)
      rw [decide_eq_false n0, decide_eq_false n1, decide_eq_false n2]; rfl
    · rw [opF_t.mpr h3]
      rcases lt3 (hs i hi) h3 with q | q | q <;> rw [q] <;> decide
  · rw [decide_eq_false hi]; rfl
theorem plan_run {rk : Nat → Nat} (hN : N ≤ 20) (hs : ∀ i, i < N → 0 ≤ F 5 i) (hW : W ≤ 6) (hW1 : 1 ≤ W) (hw : ∀ i, i < N → opF F i = true → 1 ≤ wkN F i) (hk : Wk F N) (hr : Up (edg F) N rk) (hH : ∀ i, i < N → H i = hg i) (V : Nat → Int32) (P : Nat → Nat → Int32) : PlE F N pol hg W (mkL F N H pol 21 (mkV F N (nI W) V) P) := by
  have e0 : ∀ k, cn (rn (wkN F) (fun _ => none) 0) k = 0 := fun k => by
    induction k with
    | zero => rfl
    | succ k ihk => rw [cn, ihk, if_neg (show ¬ rn (wkN F) (fun _ => none) 0 k = true from fun z => by cases z)]
  refine mkL_at hN hW hW1 hw hk hr hH 21 0 _ _ (by omega) ⟨rfl, fun i => ?_, fun i => ?_, fun i => ?_, ?_, ?_, fun i hi h => ?_, fun i s h => by cases h⟩ ?_ (fun _ => ?_) (Or.inl rfl)
  · show bt (une F N) i = _
    rw [bt_une hN hs]
    show _ = (decide (i < N) && (opF F i && true))
    rw [Bool.and_true]
  · show bt 0 i = (decide (i < N) && false)
    rw [b_0, Bool.and_false]
  · show bt 0 i = _
    rw [b_0]; simp
  · show cn (rn (wkN F) (fun _ => none) 0) N ≤ W
    rw [e0]; omega
  · show nI W = nI (W - cn (rn (wkN F) (fun _ => none) 0) N)
    rw [e0]; rfl
  · have h : bt 0 i = true := h
    rw [b_0] at h; cases h
  · have := cn_le (lft F (STF F N pol hg W 0) 0) N; omega
  · have := cn_le (lft F (STF F N pol hg W 0) 0) N; omega
/-- the plan that both make -/
theorem plan_class {rk : Nat → Nat} (hN : N ≤ 20) (hs : ∀ i, i < N → 0 ≤ F 5 i) (hW : W ≤ 6) (hW1 : 1 ≤ W) (hw : ∀ i, i < N → opF F i = true → 1 ≤ wkN F i) (hk : Wk F N) (hr : Up (edg F) N rk) : ∃ tf, tf ≤ 1001 ∧ (∀ i, i < N → opF F i = true → STF F N pol hg W tf i ≠ none) ∧ ∀ (H : Nat → Int32) (V : Nat → Int32) (P : Nat → Nat → Int32), (∀ i, i < N → H i = hg i) → (mkL F N H pol 21 (mkV F N (nI W) V) P).1 0 = nI (mxN (opF F) (enS (wkN F) (STF F N pol hg W tf)) N) ∧ ∀ i, i < N → opF F i = true → (mkL F N H pol 21 (mkV F N (nI W) V) P).2 0 i = enc (STF F N pol hg W tf i) := by
  obtain ⟨tf, T0, htf, h1, -, -⟩ := plan_run (pol := pol) (W := W) (hg := hg) hN hs hW hW1 hw hk hr (H := hg) (fun _ _ => rfl) (fun _ => 0) (fun _ _ => 0)
  have hall : ∀ i, i < N → opF F i = true → STF F N pol hg W tf i ≠ none := fun i hi ho q => by
    obtain ⟨s, hs, -⟩ := h1 i hi ho
    rw [q] at hs; cases hs
  refine ⟨tf, htf, hall, fun H V P hH => ?_⟩
  obtain ⟨tg, T', -, g1, g2, g3⟩ := plan_run (pol := pol) (W := W) (hg := hg) hN hs hW hW1 hw hk hr hH V P
  have hall' : ∀ i, i < N → opF F i = true → STF F N pol hg W tg i ≠ none := fun i hi ho q => by
    obtain ⟨s, hs, -⟩ := g1 i hi ho
    rw [q] at hs; cases hs
  have e : STF F N pol hg W tg = STF F N pol hg W tf := by
    rcases Nat.le_total tf tg with q | q
    · have := ST_stop (op := opF F) (E := edg F) (w := wkN F) (R := plR F pol hg) (W := W) hw hall (tg - tf)
      rw [show tf + (tg - tf) = tg by omega] at this
      exact this
    · have := ST_stop (op := opF F) (E := edg F) (w := wkN F) (R := plR F pol hg) (W := W) hw hall' (tf - tg)
      rw [show tg + (tf - tg) = tf by omega] at this
      exact this.symm
  rw [e] at g1 g3
  refine ⟨?_, fun i hi ho => ?_⟩
  · rw [g2]
    congr 1
    refine Nat.le_antisymm ?_ (mxN_le (fun i hi ho => ?_))
    · rcases g3 with q | ⟨i, s, q1, q2⟩
      · omega
      · have hok := ST_ok (op := opF F) (E := edg F) (w := wkN F) (R := plR F pol hg) (W := W) hw tf i s q1
        have := mxN_ge (P := opF F) (g := enS (wkN F) (STF F N pol hg W tf)) hok.1 hok.2.1
        unfold enS at this
        rw [q1] at this
        have : s + wkN F i ≤ _ := this
        rw [q2] at this
        exact this
    · obtain ⟨s, s1, s2, s3⟩ := g1 i hi ho
      unfold enS
      rw [s1]
      exact s2
  · obtain ⟨s, s1, s2, s3⟩ := g1 i hi ho
    rw [s3, s1]
    rfl
end
