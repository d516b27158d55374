/-! slack, isSuperfluous, wouldDoom -/
theorem e11 {F : Nat → Nat → Int32} {p i : Nat} (h : bt (F 11 i) p = true) : edg F p i = true := by
  show bt (prd F i) p = true
  rw [bt_prd, h]; rfl
set_option maxHeartbeats 4000000 in
set_option maxRecDepth 100000 in
 theorem m_slack {G : GC} {B n m N : Nat} {S : Nat → Int32} {F : Nat → Nat → Int32} {L : Nat} {pt : Nat → Int32} {len : Nat} {C : Nat → Int32} {sv : Nat → Option (Nat × (Nat → Int32) × (Nat → Nat → Int32))} {h : HT} (hN : N ≤ 20) (hM : ML B m N S F L pt len C sv h) (hG : Gr N F) (x : Int32) : CtJ G B M9_slack [.ref (B + m), .int x] n h 0 0 (fun r2 n2 h2 => r2 = some (.int (zSlk N F (fun i => nI (hgN F N i)) (fun i => nI (ldN F N i)) x)) ∧ n2 = n ∧ ML B m N S F L pt len C sv h2 ∧ tk m h h2) := by
  obtain ⟨⟨rk, hr, hk⟩, hw, hB⟩ := hG
  obtain ⟨A, Wy, V, hh, ha⟩ := hM
  have hw0 := ha.1.1
  have fin0 : ML B m N S F L pt len C sv (wM B m A Wy V h) ∧ tk m h (wM B m A Wy V h) := MLa.fin ha
  unfold CtJ
  refine jj_lv (lv' := [some (.ref (B + m)), some (.int x), none, none]) rfl ?_
  refine jj_h hh ?_
  refine jj_s (pc' := 1) rfl rfl ?_
  refine jj_s (pc' := 2) rfl rfl ?_
  refine jj_v1 rfl rfl rfl wM_o rfl rfl (c9_isItem hN hw0 _) ?_
  refine jj_zF 10 rfl rfl (fun c1 => ?_) (fun c1 => ?_)
  · obtain ⟨i, hi, rfl⟩ := isN_of hN c1
    refine jj_s (pc' := 11) rfl rfl ?_
    refine jj_s (pc' := 12) rfl rfl ?_
    refine jj_v1 rfl rfl rfl wM_o rfl rfl (c9_hasEnded (by omega)) ?_
    rw [(ha.1.2.2.1 i hi).2.2.1]
    refine jj_zT 21 rfl rfl (fun c2 => ?_) (fun c2 => ?_)
    · have c2 := of_decide_eq_false c2
      rw [show zSlk N F (fun i => nI (hgN F N i)) (fun i => nI (ldN F N i)) (nI i) = gmK F (fun i => nI (hgN F N i)) N - nI (hgN F N i) - nI (ldN F N i) by rw [zSlk, if_pos c1, ix_nI (by omega), if_neg c2]]
      refine jj_s (pc' := 22) rfl rfl ?_
      refine jj_vp0 rfl rfl rfl wM_o rfl rfl (c9_measure hN ha.1 hr hk hw) (fun r n' h' q => ?_)
      obtain ⟨rfl, rfl, A', rfl, hA, hb⟩ := q
      have ha' := ha.sc (A' := A') (fun j hj => hA j (by omega) (by omega))
      have hw0 := ha'.1.1
      refine jj_s (pc' := 26) rfl rfl ?_
      refine jj_s (pc' := 27) rfl rfl ?_
      refine jj_s (pc' := 28) rfl rfl ?_
      refine jj_s (pc' := 29) rfl rfl ?_
      have L1 : ∀ d k, k ≤ N → N + 1 ≤ k + d → JJ X0 G B M9_slack 29 [some (.ref (B + m)), some (.int (nI i)), some (.int (gmK F (fun i => nI (hgN F N i)) k)), some (.int (nI k))] [] n' (wM B m A' Wy V h) 0 0 (fun r2 n2 h2 => r2 = some (.int (gmK F (fun i => nI (hgN F N i)) N - nI (hgN F N i) - nI (ldN F N i))) ∧ n2 = n' ∧ ML B m N S F L pt len C sv h2 ∧ tk m h h2) := by
        intro d
        induction d with
        | zero => intro k h1 h2; exact absurd h2 (by omega)
        | succ d ih =>
          intro k h1 h2
          refine jj_s (pc' := 30) rfl rfl ?_
          refine jj_s (pc' := 31) rfl rfl ?_
          refine jj_g rfl rfl wM_o rfl ?_
          refine jj_s (pc' := 35) rfl rfl ?_
          refine jj_m0 hw0 rfl ?_
          refine jj_geN 74 rfl rfl (by omega) (by omega) (fun c => ?_) (fun c => ?_)
          · have hkN : k = N := by omega
            subst hkN
            refine jj_s (pc' := 75) rfl rfl ?_
            refine jj_s (pc' := 76) rfl rfl ?_
            refine jj_g rfl rfl wM_o rfl ?_
            refine jj_s (pc' := 80) rfl rfl ?_
            refine jj_mld 20 rfl rfl (by decide) (by first | assumption | omega) ?_
            refine jj_s (pc' := 82) rfl rfl ?_
            refine jj_s (pc' := 83) rfl rfl ?_
            refine jj_g rfl rfl wM_o rfl ?_
            refine jj_s (pc' := 87) rfl rfl ?_
            refine jj_mld 20 rfl rfl (by decide) (by first | assumption | omega) ?_
            refine jj_s (pc' := 89) rfl rfl ?_
            refine jj_s (pc' := 90) rfl rfl ?_
            refine jj_s (pc' := 91) rfl rfl ?_
            refine jj_v2 rfl rfl rfl wM_o rfl rfl (c9_of (a := 1) (by omega) (by decide)) ?_
            refine jj_s (pc' := 95) rfl rfl ?_
            refine jj_s (pc' := 96) rfl rfl ?_
            refine jj_iret rfl rfl ⟨?_, rfl, MLa.fin ha'⟩
            have e1 : ofW (A' 0) i 1 = nI (wkN F i) := by
              rw [(ha'.1.2.2.1 i hi).1 1 (by omega), ← (hw i hi).1, wkL, if_neg c2]
            rw [(hb i hi).1, (hb i hi).2, e1, pk_sub (by omega), Nat.add_sub_cancel]
          · refine jj_s (pc' := 40) rfl rfl ?_
            refine jj_s (pc' := 41) rfl rfl ?_
            refine jj_v1 rfl rfl rfl wM_o rfl rfl (c9_hasEnded (by omega)) ?_
            rw [(ha'.1.2.2.1 k c).2.2.1]
            refine jj_zF 66 rfl rfl (fun c3 => ?_) (fun c3 => ?_)
            · refine jj_s (pc' := 67) rfl rfl ?_
              refine jj_s (pc' := 68) rfl rfl ?_
              first | refine jj_inc rfl rfl ?_ | refine jj_s (pc' := 71) rfl rfl ?_
              refine jj_s (pc' := 29) rfl rfl ?_
              refine jj_lv ?_ (ih (k + 1) (by omega) (by omega))
              rw [gmK, if_pos (of_decide_eq_true c3)]; rfl
            · refine jj_s (pc' := 48) rfl rfl ?_
              refine jj_g rfl rfl wM_o rfl ?_
              refine jj_s (pc' := 52) rfl rfl ?_
              refine jj_mld 20 rfl rfl (by decide) (by first | assumption | omega) ?_
              refine jj_s (pc' := 54) rfl rfl ?_
              rw [(hb k c).1]
              refine jj_icmp_le 66 rfl rfl (fun c4 => ?_) (fun c4 => ?_)
              · refine jj_s (pc' := 67) rfl rfl ?_
                refine jj_s (pc' := 68) rfl rfl ?_
                first | refine jj_inc rfl rfl ?_ | refine jj_s (pc' := 71) rfl rfl ?_
                refine jj_s (pc' := 29) rfl rfl ?_
                refine jj_lv ?_ (ih (k + 1) (by omega) (by omega))
                rw [gmK, if_neg (of_decide_eq_false c3), if_neg (Int32.not_lt.mpr c4)]; rfl
              · refine jj_s (pc' := 58) rfl rfl ?_
                refine jj_g rfl rfl wM_o rfl ?_
                refine jj_s (pc' := 62) rfl rfl ?_
                refine jj_mld 20 rfl rfl (by decide) (by first | assumption | omega) ?_
                refine jj_s (pc' := 67) rfl rfl ?_
                refine jj_s (pc' := 68) rfl rfl ?_
                first | refine jj_inc rfl rfl ?_ | refine jj_s (pc' := 71) rfl rfl ?_
                refine jj_s (pc' := 29) rfl rfl ?_
                rw [(hb k c).1]
                refine jj_lv ?_ (ih (k + 1) (by omega) (by omega))
                rw [gmK, if_neg (of_decide_eq_false c3), if_pos (Int32.not_le.mp c4)]; rfl
      exact L1 (N + 1) 0 (by omega) (by omega)
    · refine jj_s (pc' := 20) rfl rfl ?_
      exact jj_iret rfl rfl ⟨by rw [zSlk, if_pos c1, ix_nI (by omega), if_pos (of_decide_eq_true c2)]; rfl, rfl, fin0⟩
  · refine jj_s (pc' := 9) rfl rfl ?_
    exact jj_iret rfl rfl ⟨by rw [zSlk, if_neg (by rw [c1]; decide)]; rfl, rfl, fin0⟩
set_option maxHeartbeats 4000000 in
set_option maxRecDepth 100000 in
 theorem m_isSuperfluous {G : GC} {B n m N : Nat} {S : Nat → Int32} {F : Nat → Nat → Int32} {L : Nat} {pt : Nat → Int32} {len : Nat} {C : Nat → Int32} {sv : Nat → Option (Nat × (Nat → Int32) × (Nat → Nat → Int32))} {h : HT} (hN : N ≤ 20) (hM : ML B m N S F L pt len C sv h) (hG : Gr N F) (x y : Int32) : CtJ G B M9_isSuperfluous [.ref (B + m), .int x, .int y] n h 0 0 (fun r2 n2 h2 => r2 = some (.int (zSup N F (bfN F N) x y)) ∧ n2 = n ∧ ML B m N S F L pt len C sv h2 ∧ tk m h h2) := by
  obtain ⟨⟨rk, hr, hk⟩, hw, hB⟩ := hG
  obtain ⟨A, Wy, V, hh, ha⟩ := hM
  have hw0 := ha.1.1
  have fin0 : ML B m N S F L pt len C sv (wM B m A Wy V h) ∧ tk m h (wM B m A Wy V h) := MLa.fin ha
  unfold CtJ
  refine jj_lv (lv' := [some (.ref (B + m)), some (.int x), some (.int y), none, none]) rfl ?_
  refine jj_h hh ?_
  have bad : (isN N x && isN N y) = false → JJ X0 G B M9_isSuperfluous 16 [some (.ref (B + m)), some (.int x), some (.int y), none, none] [] n (wM B m A Wy V h) 0 0 (fun r2 n2 h2 => r2 = some (.int (zSup N F (bfN F N) x y)) ∧ n2 = n ∧ ML B m N S F L pt len C sv h2 ∧ tk m h h2) := by
    intro hb
    refine jj_s (pc' := 17) rfl rfl ?_
    exact jj_iret rfl rfl ⟨by rw [zSup, if_neg (by rw [hb]; decide)]; rfl, rfl, fin0⟩
  refine jj_s (pc' := 1) rfl rfl ?_
  refine jj_s (pc' := 2) rfl rfl ?_
  refine jj_v1 rfl rfl rfl wM_o rfl rfl (c9_isItem hN hw0 _) ?_
  refine jj_zT 16 rfl rfl (fun c1 => bad (by rw [c1]; rfl)) (fun c1 => ?_)
  refine jj_s (pc' := 9) rfl rfl ?_
  refine jj_s (pc' := 10) rfl rfl ?_
  refine jj_v1 rfl rfl rfl wM_o rfl rfl (c9_isItem hN hw0 _) ?_
  refine jj_zF 18 rfl rfl (fun c2 => ?_) (fun c2 => bad (by rw [c2]; simp))
  have ok : (isN N x && isN N y) = true := by rw [c1, c2]; rfl
  obtain ⟨i, hi, rfl⟩ := isN_of hN c1
  obtain ⟨j, hj, rfl⟩ := isN_of hN c2
  refine jj_s (pc' := 19) rfl rfl ?_
  refine jj_s (pc' := 20) rfl rfl ?_
  refine jj_s (pc' := 21) rfl rfl ?_
  refine jj_v2 rfl rfl rfl wM_o rfl rfl (c9_kindOf (by omega) (by omega)) ?_
  rw [ha.1.2.2.2 i j hi hj]
  refine jj_if_ge 30 rfl rfl (fun c3 => ?_) (fun c3 => ?_)
  · have c3 := (kd_e F i j).mp (Int32.not_lt.mpr c3)
    rw [show zSup N F (bfN F N) (nI i) (nI j) = bI (anyN (fun k => edg F k j && bt (bfN F N k) i) N) by rw [zSup, if_pos ok, ix_nI (by omega), ix_nI (by omega), if_pos c3]]
    refine jj_s (pc' := 31) rfl rfl ?_
    refine jj_vp0 rfl rfl rfl wM_o rfl rfl (c9_layAhead hN ha.1 hr hk hB) (fun r n' h' q => ?_)
    obtain ⟨rfl, rfl, A', rfl, hA, hb⟩ := q
    have ha' := ha.sc (A' := A') (fun j hj => hA j (by omega))
    have hw0 := ha'.1.1
    refine jj_s (pc' := 35) rfl rfl ?_
    refine jj_s (pc' := 36) rfl rfl ?_
    refine jj_s (pc' := 37) rfl rfl ?_
    refine jj_s (pc' := 39) rfl rfl ?_
    have L1 : ∀ d k, k ≤ N → N + 1 ≤ k + d → JJ X0 G B M9_isSuperfluous 39 [some (.ref (B + m)), some (.int (nI i)), some (.int (nI j)), some (.int (bI (anyN (fun k => edg F k j && bt (bfN F N k) i) k))), some (.int (nI k))] [] n' (wM B m A' Wy V h) 0 0 (fun r2 n2 h2 => r2 = some (.int (bI (anyN (fun k => edg F k j && bt (bfN F N k) i) N))) ∧ n2 = n' ∧ ML B m N S F L pt len C sv h2 ∧ tk m h h2) := by
      intro d
      induction d with
      | zero => intro k h1 h2; exact absurd h2 (by omega)
      | succ d ih =>
        intro k h1 h2
        have no : (edg F k j && bt (bfN F N k) i) = false → JJ X0 G B M9_isSuperfluous 79 [some (.ref (B + m)), some (.int (nI i)), some (.int (nI j)), some (.int (bI (anyN (fun k => edg F k j && bt (bfN F N k) i) k))), some (.int (nI k))] [] n' (wM B m A' Wy V h) 0 0 (fun r2 n2 h2 => r2 = some (.int (bI (anyN (fun k => edg F k j && bt (bfN F N k) i) N))) ∧ n2 = n' ∧ ML B m N S F L pt len C sv h2 ∧ tk m h h2) ∨ N ≤ k := by
          intro hb
          rcases Nat.lt_or_ge k N with hkN | hkN
          · refine Or.inl ?_
            refine jj_s (pc' := 80) rfl rfl ?_
            refine jj_s (pc' := 81) rfl rfl ?_
            first | refine jj_inc rfl rfl ?_ | refine jj_s (pc' := 84) rfl rfl ?_
            refine jj_s (pc' := 39) rfl rfl ?_
            have := ih (k + 1) (by omega) (by omega)
            rw [anyN, hb, Bool.or_false] at this
            exact this
          · exact Or.inr hkN
        refine jj_s (pc' := 41) rfl rfl ?_
        refine jj_s (pc' := 42) rfl rfl ?_
        refine jj_g rfl rfl wM_o rfl ?_
        refine jj_s (pc' := 46) rfl rfl ?_
        refine jj_m0 hw0 rfl ?_
        refine jj_geN 87 rfl rfl (by omega) (by omega) (fun c => ?_) (fun c => ?_)
        · refine jj_s (pc' := 88) rfl rfl ?_
          exact jj_iret rfl rfl ⟨by rw [show k = N by omega], rfl, MLa.fin ha'⟩
        · have no := fun hb => (no hb).resolve_right (by omega)
          refine jj_s (pc' := 51) rfl rfl ?_
          refine jj_s (pc' := 53) rfl rfl ?_
          refine jj_s (pc' := 54) rfl rfl ?_
          refine jj_v2 rfl rfl rfl wM_o rfl rfl (c9_kindOf (by omega) (by omega)) ?_
          rw [ha'.1.2.2.2 k j c hj]
          refine jj_if_lt 79 rfl rfl (fun c4 => no ?_) (fun c4 => ?_)
          · rw [show edg F k j = false from (kd_n F k j).mp c4]; rfl
          · have c4 := (kd_e F k j).mp c4
            refine jj_s (pc' := 61) rfl rfl ?_
            refine jj_g rfl rfl wM_o rfl ?_
            refine jj_s (pc' := 66) rfl rfl ?_
            refine jj_mld 20 rfl rfl (by decide) (by first | assumption | omega) ?_
            refine jj_s (pc' := 68) rfl rfl ?_
            refine jj_s (pc' := 69) rfl rfl ?_
            refine jj_s (pc' := 70) rfl rfl ?_
            refine jj_s (pc' := 71) rfl rfl ?_
            refine jj_s (pc' := 72) rfl rfl ?_
            rw [hb k c]
            refine jj_st (st' := [.int 1, .int (bI (bt (bfN F N k) i))]) (by rw [← b_has (show i < 32 by omega)]; rfl) ?_
            refine jj_icmp_ne 79 rfl rfl (fun c5 => no ?_) (fun c5 => ?_)
            · rw [c4]
              cases hz : bt (bfN F N k) i
              · rfl
              · rw [hz] at c5; exact absurd rfl c5
            · have c5 := bI_1.mp c5
              refine jj_s (pc' := 76) rfl rfl ?_
              refine jj_s (pc' := 80) rfl rfl ?_
              refine jj_s (pc' := 81) rfl rfl ?_
              first | refine jj_inc rfl rfl ?_ | refine jj_s (pc' := 84) rfl rfl ?_
              refine jj_s (pc' := 39) rfl rfl ?_
              have := ih (k + 1) (by omega) (by omega)
              rw [anyN, c4, c5, Bool.and_true, Bool.or_true] at this
              exact this
    exact L1 (N + 1) 0 (by omega) (by omega)
  · have c3 : ¬ bt (prd F j) i = true := fun z => (kd_e F i j).mpr z (Int32.not_le.mp c3)
    refine jj_s (pc' := 29) rfl rfl ?_
    exact jj_iret rfl rfl ⟨by rw [zSup, if_pos ok, ix_nI (by omega), ix_nI (by omega), if_neg c3]; rfl, rfl, fin0⟩
/-- what an item dooms: itself, and what follows by success edges and still waits -/
def dmR (F : Nat → Nat → Int32) (N it : Nat) : Nat → Nat → Bool
  | 0, b => decide (b = it)
  | d + 1, b => decide (b = it) || (decide (F 5 b = 0 ∨ F 5 b = 1) && anyN (fun a => bt (F 11 b) a && dmR F N it d a) N)
theorem dmR_st {F : Nat → Nat → Int32} {N it : Nat} {rk : Nat → Nat} (hr : Up (edg F) N rk) (d : Nat) : ∀ b, b < N → rk b < d → dmR F N it (d + 1) b = dmR F N it d b := by
  induction d with
  | zero => intro b _ h; omega
  | succ d ih =>
    intro b hb h
    show (decide (b = it) || (decide (F 5 b = 0 ∨ F 5 b = 1) && anyN (fun a => bt (F 11 b) a && dmR F N it (d + 1) a) N)) = (decide (b = it) || (decide (F 5 b = 0 ∨ F 5 b = 1) && anyN (fun a => bt (F 11 b) a && dmR F N it d a) N))
    rw [anyN_cong (P' := fun a => bt (F 11 b) a && dmR F N it d a)]
    intro a ha
    cases he : bt (F 11 b) a with
    | false => rfl
    | true =>
      have := hr a b ha hb (e11 he)
      rw [ih a ha (by omega)]
theorem dmR_eq {F : Nat → Nat → Int32} {N it : Nat} {rk : Nat → Nat} (hr : Up (edg F) N rk) (hk : ∀ i, i < N → rk i < N) {b : Nat} (hb : b < N) : dmR F N it N b = (decide (b = it) || (decide (F 5 b = 0 ∨ F 5 b = 1) && anyN (fun a => bt (F 11 b) a && dmR F N it N a) N)) := (dmR_st hr N b hb (hk b hb)).symm
theorem dmk_itr (F : Nat → Nat → Int32) (N m : Nat) (l : Int32) : dmk F N m l = itr (fun l => dpk F l N) m l := by
  induction m generalizing l with
  | zero => rfl
  | succ m ih =>
    unfold dmk itr
    split
    next => exact ih _
    next => rfl
theorem dmk_eq {F : Nat → Nat → Int32} {N it : Nat} {rk : Nat → Nat} (hN : N ≤ 20) (hr : Up (edg F) N rk) (hk : ∀ i, i < N → rk i < N) (hB : ∀ i, i < N → ∀ p, bt (prd F i) p = true → p < N) (hit : it < N) : dmk F N 1000 (bit it) = msk (dmR F N it N) N := by
  have pass : ∀ j l, bt l it = true → (∀ b, bt l b = true → b < N ∧ dmR F N it N b = true) → (∀ b, b < N → dmR F N it N b = true → rk b < j → bt l b = true) → ∀ k, k ≤ N → (∀ b, bt l b = true → bt (dpk F l k).1 b = true) ∧ (∀ b, bt (dpk F l k).1 b = true → b < N ∧ dmR F N it N b = true) ∧ (∀ b, b < k → dmR F N it N b = true → rk b < j + 1 → bt (dpk F l k).1 b = true) ∧ ((dpk F l k).2 = false → (dpk F l k).1 = l) := by
    intro j l l1 l2 l3 k
    induction k with
    | zero => intro _; exact ⟨fun b h => h, l2, fun b h => absurd h (by omega), fun _ => rfl⟩
    | succ k ih =>
      intro hkN
      obtain ⟨i1, i2, i3, i4⟩ := ih (by omega)
      by_cases c : (F 5 k = 0 ∨ F 5 k = 1) ∧ bt (dpk F l k).1 k = false ∧ ¬ F 11 k &&& (dpk F l k).1 = 0
      · have e : dpk F l (k + 1) = ((dpk F l k).1 ||| bit k, true) := by rw [dpk, if_pos c]
        rw [e]
        refine ⟨fun b h => by show bt (_ ||| _) b = true; rw [b_put (by omega), i1 b h]; rfl, fun b h => ?_, fun b hb h1 h2 => ?_, fun h => by cases h⟩
        · have h : bt ((dpk F l k).1 ||| bit k) b = true := h
          rw [b_put (by omega), Bool.or_eq_true, decide_eq_true_eq] at h
          rcases h with h | h
          · exact i2 b h
          · subst h
            refine ⟨by omega, ?_⟩
            rw [dmR_eq hr hk (by omega)]
            obtain ⟨a, a1, a2⟩ := b_ne0.mp c.2.2
            rw [b_and, Bool.and_eq_true] at a2
            have := i2 a a2.2
            rw [decide_eq_true c.1, (anyN_iff (fun a => bt (F 11 b) a && dmR F N it N a) N).mpr ⟨a, this.1, by rw [a2.1, this.2]; rfl⟩]
            simp
        · show bt ((dpk F l k).1 ||| bit k) b = true
          rw [b_put (by omega)]
          by_cases eb : b = k
          · rw [decide_eq_true eb, Bool.or_true]
          · rw [i3 b (by omega) h1 h2]; rfl
      · have e : dpk F l (k + 1) = dpk F l k := by rw [dpk, if_neg c]
        rw [e]
        refine ⟨i1, i2, fun b hb h1 h2 => ?_, i4⟩
        by_cases eb : b = k
        · subst eb
          cases hbb : bt (dpk F l b).1 b with
          | true => rfl
          | false =>
            exfalso
            rw [dmR_eq hr hk (by omega), Bool.or_eq_true, decide_eq_true_eq, Bool.and_eq_true, decide_eq_true_eq] at h1
            rcases h1 with h1 | ⟨h3, h4⟩
            · subst h1; rw [i1 b l1] at hbb; cases hbb
            · obtain ⟨a, a1, a2⟩ := (anyN_iff _ _).mp h4
              rw [Bool.and_eq_true] at a2
              have hab := hr a b a1 (by omega) (e11 a2.1)
              have : bt (dpk F l b).1 a = true := i1 a (l3 a a1 a2.2 (by omega))
              exact c ⟨h3, hbb, b_ne0.mpr ⟨a, by omega, by rw [b_and, a2.1, this]; rfl⟩⟩
        · exact i3 b (by omega) h1 h2
  rw [dmk_itr]
  have := itr_done (fun l => dpk F l N) (fun j l => bt l it = true ∧ (∀ b, bt l b = true → b < N ∧ dmR F N it N b = true) ∧ (∀ b, b < N → dmR F N it N b = true → rk b < j → bt l b = true)) (fun j l ⟨l1, l2, l3⟩ => ?_) (fun j l ⟨l1, l2, l3⟩ hb => ?_) 1000 (bit it) 0 ⟨by rw [bt_bit (by omega), decide_eq_true rfl], fun b h => ?_, fun b _ _ h => by omega⟩
  · obtain ⟨l1, l2, l3⟩ := this
    refine b_ext fun b _ => ?_
    rw [bt_msk _ (by omega)]
    cases hb : bt (itr (fun l => dpk F l N) 1000 (bit it)) b with
    | true => have := l2 b hb; rw [decide_eq_true this.1, this.2]; rfl
    | false =>
      by_cases hbN : b < N
      · cases hd : dmR F N it N b with
        | false => simp
        | true => rw [l3 b hbN hd (by have := hk b hbN; omega)] at hb; cases hb
      · rw [decide_eq_false hbN]; rfl
  · obtain ⟨p1, p2, p3, p4⟩ := pass j l l1 l2 l3 N (Nat.le_refl _)
    exact ⟨p1 it l1, p2, p3⟩
  · exact (pass j l l1 l2 l3 N (Nat.le_refl _)).2.2.2 hb
  · rw [bt_bit (by omega), decide_eq_true_eq] at h
    subst h
    refine ⟨hit, ?_⟩
    rw [dmR_eq hr hk hit, decide_eq_true rfl]; rfl
set_option maxHeartbeats 4000000 in
set_option maxRecDepth 100000 in
 theorem m_wouldDoom {G : GC} {B n m N : Nat} {S : Nat → Int32} {F : Nat → Nat → Int32} {L : Nat} {pt : Nat → Int32} {len : Nat} {C : Nat → Int32} {sv : Nat → Option (Nat × (Nat → Int32) × (Nat → Nat → Int32))} {h : HT} (hN : N ≤ 20) (hM : ML B m N S F L pt len C sv h) (hG : Gr N F) (x : Int32) : CtJ G B M9_wouldDoom [.ref (B + m), .int x] n h 0 0 (fun r2 n2 h2 => r2 = some (.int (zDoo N F x)) ∧ n2 = n ∧ ML B m N S F L pt len C sv h2 ∧ tk m h h2) := by
  obtain ⟨⟨rk, hr, hk⟩, hw, hB⟩ := hG
  obtain ⟨A, Wy, V, hh, ha⟩ := hM
  have hw0 := ha.1.1
  have fin0 : ML B m N S F L pt len C sv (wM B m A Wy V h) ∧ tk m h (wM B m A Wy V h) := MLa.fin ha
  unfold CtJ
  refine jj_lv (lv' := [some (.ref (B + m)), some (.int x), none, none, none, none, none]) rfl ?_
  refine jj_h hh ?_
  refine jj_s (pc' := 1) rfl rfl ?_
  refine jj_s (pc' := 2) rfl rfl ?_
  refine jj_v1 rfl rfl rfl wM_o rfl rfl (c9_isItem hN hw0 _) ?_
  refine jj_zF 10 rfl rfl (fun c1 => ?_) (fun c1 => ?_)
  · obtain ⟨it, hit, rfl⟩ := isN_of hN c1
    refine jj_s (pc' := 11) rfl rfl ?_
    refine jj_s (pc' := 12) rfl rfl ?_
    refine jj_v1 rfl rfl rfl wM_o rfl rfl (c9_hasEnded (by omega)) ?_
    rw [(ha.1.2.2.1 it hit).2.2.1]
    refine jj_zT 21 rfl rfl (fun c2 => ?_) (fun c2 => ?_)
    · have c2 := of_decide_eq_false c2
      rw [show zDoo N F (nI it) = msk (dmR F N it N) N &&& (bit it ^^^ -1) by rw [zDoo, if_pos c1, ix_nI (by omega), if_neg c2, dmk_eq hN hr hk hB hit]]
      refine jj_s (pc' := 22) rfl rfl ?_
      refine jj_s (pc' := 23) rfl rfl ?_
      refine jj_s (pc' := 24) rfl rfl ?_
      refine jj_s (pc' := 25) rfl rfl ?_
      refine jj_s (pc' := 26) rfl rfl ?_
      refine jj_s (pc' := 27) rfl rfl ?_
      refine jj_lv (lv' := [some (.ref (B + m)), some (.int (nI it)), some (.int (bit it)), some (.int (nI 0)), none, none, none]) rfl ?_
      have L2 : ∀ d r l z4 z5 z6, r ≤ N → N + 1 ≤ r + d → bt l it = true → (∀ b, bt l b = true → b < N ∧ dmR F N it N b = true) → (∀ b, b < N → dmR F N it N b = true → rk b < r → bt l b = true) → JJ X0 G B M9_wouldDoom 27 [some (.ref (B + m)), some (.int (nI it)), some (.int l), some (.int (nI r)), z4, z5, z6] [] n (wM B m A Wy V h) 0 0 (fun r2 n2 h2 => r2 = some (.int (msk (dmR F N it N) N &&& (bit it ^^^ -1))) ∧ n2 = n ∧ ML B m N S F L pt len C sv h2 ∧ tk m h h2) := by
        intro d
        induction d with
        | zero => intro r l z4 z5 z6 h1 h2; exact absurd h2 (by omega)
        | succ d ih =>
          intro r l z4 z5 z6 h1 h2 l1 l2 l3
          refine jj_s (pc' := 28) rfl rfl ?_
          refine jj_s (pc' := 29) rfl rfl ?_
          refine jj_g rfl rfl wM_o rfl ?_
          refine jj_s (pc' := 33) rfl rfl ?_
          refine jj_m0 hw0 rfl ?_
          refine jj_geN 139 rfl rfl (by omega) (by omega) (fun c => ?_) (fun c => ?_)
          · refine jj_s (pc' := 140) rfl rfl ?_
            refine jj_s (pc' := 141) rfl rfl ?_
            refine jj_s (pc' := 142) rfl rfl ?_
            refine jj_s (pc' := 143) rfl rfl ?_
            refine jj_s (pc' := 144) rfl rfl ?_
            refine jj_s (pc' := 145) rfl rfl ?_
            refine jj_s (pc' := 146) rfl rfl ?_
            refine jj_iret rfl rfl ⟨?_, rfl, fin0⟩
            have e : l = msk (dmR F N it N) N := by
              refine b_ext fun b _ => ?_
              rw [bt_msk _ (by omega)]
              cases hb : bt l b with
              | true => have := l2 b hb; rw [decide_eq_true this.1, this.2]; rfl
              | false =>
                by_cases hbN : b < N
                · cases hd : dmR F N it N b with
                  | false => simp
                  | true => rw [l3 b hbN hd (by have := hk b hbN; omega)] at hb; cases hb
                · rw [decide_eq_false hbN]; rfl
            rw [e]
            rfl
          · refine jj_s (pc' := 38) rfl rfl ?_
            refine jj_s (pc' := 40) rfl rfl ?_
            have L3 : ∀ e a l z5 z6, a ≤ N → N + 1 ≤ a + e → bt l it = true → (∀ b, bt l b = true → b < N ∧ dmR F N it N b = true) → (∀ b, b < N → dmR F N it N b = true → rk b < r → bt l b = true) → (∀ b, b < N → (F 5 b = 0 ∨ F 5 b = 1) → rk b < r + 1 → ∀ q, q < a → bt (F 11 b) q = true → dmR F N it N q = true → bt l b = true) → JJ X0 G B M9_wouldDoom 40 [some (.ref (B + m)), some (.int (nI it)), some (.int l), some (.int (nI r)), some (.int (nI a)), z5, z6] [] n (wM B m A Wy V h) 0 0 (fun r2 n2 h2 => r2 = some (.int (msk (dmR F N it N) N &&& (bit it ^^^ -1))) ∧ n2 = n ∧ ML B m N S F L pt len C sv h2 ∧ tk m h h2) := by
              intro e
              induction e with
              | zero => intro a l z5 z6 g1 g2; exact absurd g2 (by omega)
              | succ e ih3 =>
                intro a l z5 z6 g1 g2 l1 l2 l3 l4
                refine jj_s (pc' := 42) rfl rfl ?_
                refine jj_s (pc' := 43) rfl rfl ?_
                refine jj_g rfl rfl wM_o rfl ?_
                refine jj_s (pc' := 47) rfl rfl ?_
                refine jj_m0 hw0 rfl ?_
                refine jj_geN 133 rfl rfl (by omega) (by omega) (fun ca => ?_) (fun ca => ?_)
                · have haN : a = N := by omega
                  subst haN
                  first | refine jj_inc rfl rfl ?_ | refine jj_s (pc' := 136) rfl rfl ?_
                  refine jj_s (pc' := 27) rfl rfl ?_
                  refine ih (r + 1) l _ _ _ (by omega) (by omega) l1 l2 (fun b hb hd hrb => ?_)
                  rw [dmR_eq hr hk hb, Bool.or_eq_true, decide_eq_true_eq, Bool.and_eq_true, decide_eq_true_eq] at hd
                  rcases hd with hd | ⟨h3, h4⟩
                  · subst hd; exact l1
                  · obtain ⟨q, q1, q2⟩ := (anyN_iff _ _).mp h4
                    rw [Bool.and_eq_true] at q2
                    exact l4 b hb h3 hrb q q1 q2.1 q2.2
                · refine jj_s (pc' := 52) rfl rfl ?_
                  refine jj_s (pc' := 54) rfl rfl ?_
                  have L4 : ∀ f b l z6, b ≤ N → N + 1 ≤ b + f → bt l it = true → (∀ b, bt l b = true → b < N ∧ dmR F N it N b = true) → (∀ b, b < N → dmR F N it N b = true → rk b < r → bt l b = true) → (∀ i, i < N → (F 5 i = 0 ∨ F 5 i = 1) → rk i < r + 1 → ∀ q, (q < a ∨ (q = a ∧ i < b)) → bt (F 11 i) q = true → dmR F N it N q = true → bt l i = true) → JJ X0 G B M9_wouldDoom 54 [some (.ref (B + m)), some (.int (nI it)), some (.int l), some (.int (nI r)), some (.int (nI a)), some (.int (nI b)), z6] [] n (wM B m A Wy V h) 0 0 (fun r2 n2 h2 => r2 = some (.int (msk (dmR F N it N) N &&& (bit it ^^^ -1))) ∧ n2 = n ∧ ML B m N S F L pt len C sv h2 ∧ tk m h h2) := by
                    intro f
                    induction f with
                    | zero => intro b l z6 g3 g4; exact absurd g4 (by omega)
                    | succ f ih4 =>
                      intro b l z6 g3 g4 l1 l2 l3 l4
                      refine jj_s (pc' := 56) rfl rfl ?_
                      refine jj_s (pc' := 57) rfl rfl ?_
                      refine jj_g rfl rfl wM_o rfl ?_
                      refine jj_s (pc' := 61) rfl rfl ?_
                      refine jj_m0 hw0 rfl ?_
                      refine jj_geN 127 rfl rfl (by omega) (by omega) (fun cb => ?_) (fun cb => ?_)
                      · first | refine jj_inc rfl rfl ?_ | refine jj_s (pc' := 130) rfl rfl ?_
                        refine jj_s (pc' := 40) rfl rfl ?_
                        exact ih3 (a + 1) l _ _ (by omega) (by omega) l1 l2 l3 (fun i hi hf hri q hq => l4 i hi hf hri q (by omega))
                      · have no : ¬ (bt l a = true ∧ bt (F 11 b) a = true ∧ (F 5 b = 0 ∨ F 5 b = 1)) → JJ X0 G B M9_wouldDoom 102 [some (.ref (B + m)), some (.int (nI it)), some (.int l), some (.int (nI r)), some (.int (nI a)), some (.int (nI b)), z6] [] n (wM B m A Wy V h) 0 0 (fun r2 n2 h2 => r2 = some (.int (msk (dmR F N it N) N &&& (bit it ^^^ -1))) ∧ n2 = n ∧ ML B m N S F L pt len C sv h2 ∧ tk m h h2) := by
                          intro hb
                          refine jj_s (pc' := 103) rfl rfl ?_
                          refine jj_s (pc' := 105) rfl rfl ?_
                          refine jj_s (pc' := 106) rfl rfl ?_
                          refine jj_s (pc' := 108) rfl rfl ?_
                          refine jj_if_eq 118 rfl rfl (fun _ => ?_) (fun c3 => absurd rfl c3)
                          refine jj_s (pc' := 119) rfl rfl ?_
                          refine jj_s (pc' := 120) rfl rfl ?_
                          refine jj_s (pc' := 121) rfl rfl ?_
                          first | refine jj_inc rfl rfl ?_ | refine jj_s (pc' := 124) rfl rfl ?_
                          refine jj_s (pc' := 54) rfl rfl ?_
                          have e0 : ∀ x : Int32, x ||| 0 = x := fun x => b_ext fun i _ => by rw [b_or, b_0, Bool.or_false]
                          have := ih4 (b + 1) l (some (.int 0)) (by omega) (by omega) l1 l2 l3 (fun i hi hf hri q hq h1 h2 => by
                            by_cases z : q = a
                            · subst z
                              by_cases zi : i = b
                              · subst zi
                                have hqi := hr q i ca hi (e11 h1)
                                exact absurd ⟨l3 q ca h2 (by omega), h1, hf⟩ hb
                              · exact l4 i hi hf hri q (by omega) h1 h2
                            · exact l4 i hi hf hri q (by omega) h1 h2)
                          rw [← e0 l] at this
                          exact this
                        refine jj_s (pc' := 66) rfl rfl ?_
                        refine jj_s (pc' := 68) rfl rfl ?_
                        refine jj_s (pc' := 69) rfl rfl ?_
                        refine jj_s (pc' := 70) rfl rfl ?_
                        refine jj_s (pc' := 71) rfl rfl ?_
                        refine jj_s (pc' := 72) rfl rfl ?_
                        refine jj_st (st' := [.int 1, .int (bI (bt l a))]) (by rw [← b_has (show a < 32 by omega)]; rfl) ?_
                        refine jj_icmp_ne 102 rfl rfl (fun c3 => no (fun z => c3 (by rw [z.1]; rfl))) (fun c3 => ?_)
                        have c3 := bI_1.mp c3
                        refine jj_s (pc' := 76) rfl rfl ?_
                        refine jj_s (pc' := 78) rfl rfl ?_
                        refine jj_s (pc' := 80) rfl rfl ?_
                        refine jj_v2 rfl rfl rfl wM_o rfl rfl (c9_kindOf (by omega) (by omega)) ?_
                        rw [ha.1.2.2.2 a b ca cb]
                        refine jj_if_ne 102 rfl rfl (fun c4 => no (fun z => c4 ((kd_0 F a b).mpr z.2.1))) (fun c4 => ?_)
                        have c4 := (kd_0 F a b).mp c4
                        refine jj_s (pc' := 87) rfl rfl ?_
                        refine jj_s (pc' := 89) rfl rfl ?_
                        refine jj_s (pc' := 91) rfl rfl ?_
                        refine jj_v2 rfl rfl rfl wM_o rfl rfl (c9_of (a := 8) (by omega) (by decide)) ?_
                        rw [(ha.1.2.2.1 b cb).2.2.1]
                        refine jj_s (pc' := 95) rfl rfl ?_
                        refine jj_icmp_gt 102 rfl rfl (fun (c5 : 1 < F 5 b) => no (fun z => by rcases z.2.2 with q | q <;> rw [q] at c5 <;> exact absurd c5 (by decide))) (fun (c5 : ¬ 1 < F 5 b) => ?_)
                        have c5 := le1_01 (ha.1.2.2.1 b cb).2.2.2.2.2.2 c5
                        refine jj_s (pc' := 99) rfl rfl ?_
                        refine jj_s (pc' := 103) rfl rfl ?_
                        refine jj_s (pc' := 105) rfl rfl ?_
                        refine jj_s (pc' := 106) rfl rfl ?_
                        refine jj_s (pc' := 108) rfl rfl ?_
                        refine jj_if_eq 118 rfl rfl (fun c6 => absurd c6 (by decide)) (fun _ => ?_)
                        refine jj_s (pc' := 112) rfl rfl ?_
                        refine jj_s (pc' := 114) rfl rfl ?_
                        refine jj_s (pc' := 115) rfl rfl ?_
                        refine jj_s (pc' := 119) rfl rfl ?_
                        refine jj_s (pc' := 120) rfl rfl ?_
                        refine jj_s (pc' := 121) rfl rfl ?_
                        first | refine jj_inc rfl rfl ?_ | refine jj_s (pc' := 124) rfl rfl ?_
                        refine jj_s (pc' := 54) rfl rfl ?_
                        refine ih4 (b + 1) (l ||| bit b) _ (by omega) (by omega) (by rw [b_put (by omega), l1]; rfl) (fun i h => ?_) (fun i hi hd hri => by rw [b_put (by omega), l3 i hi hd hri]; rfl) (fun i hi hf hri q hq h1 h2 => ?_)
                        · rw [b_put (by omega), Bool.or_eq_true, decide_eq_true_eq] at h
                          rcases h with h | h
                          · exact l2 i h
                          · subst h
                            refine ⟨cb, ?_⟩
                            rw [dmR_eq hr hk cb, decide_eq_true c5, (anyN_iff (fun q => bt (F 11 i) q && dmR F N it N q) N).mpr ⟨a, ca, by rw [c4, (l2 a c3).2]; rfl⟩]
                            simp
                        · rw [b_put (by omega)]
                          by_cases zi : i = b
                          · rw [decide_eq_true zi, Bool.or_true]
                          · rw [l4 i hi hf hri q (by omega) h1 h2]; rfl
                  exact L4 (N + 1) 0 l _ (by omega) (by omega) l1 l2 l3 (fun i hi hf hri q hq => l4 i hi hf hri q (by omega))
            exact L3 (N + 1) 0 l _ _ (by omega) (by omega) l1 l2 l3 (fun i hi hf hri q hq => absurd hq (by omega))
      refine L2 (N + 1) 0 (bit it) none none none (by omega) (by omega) (by rw [bt_bit (by omega), decide_eq_true rfl]) (fun b h => ?_) (fun b _ _ h => by omega)
      rw [bt_bit (by omega), decide_eq_true_eq] at h
      subst h
      refine ⟨hit, ?_⟩
      rw [dmR_eq hr hk hit, decide_eq_true rfl]; rfl
    · refine jj_s (pc' := 20) rfl rfl ?_
      exact jj_iret rfl rfl ⟨by rw [zDoo, if_pos c1, ix_nI (by omega), if_pos (of_decide_eq_true c2)]; rfl, rfl, fin0⟩
  · refine jj_s (pc' := 9) rfl rfl ?_
    exact jj_iret rfl rfl ⟨by rw [zDoo, if_neg (by rw [c1]; decide)]; rfl, rfl, fin0⟩
