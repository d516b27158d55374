/-! the reference's calls on paths -/
def Gr (N : Nat) (F : Nat → Nat → Int32) : Prop := (∃ rk, Up (edg F) N rk ∧ ∀ i, i < N → rk i < N) ∧ Wk F N ∧ ∀ i, i < N → ∀ p, bt (prd F i) p = true → p < N
theorem MLa.sc {N : Nat} {S : Nat → Int32} {F : Nat → Nat → Int32} {L : Nat} {pt : Nat → Int32} {len : Nat} {C : Nat → Int32} {sv : Nat → Option (Nat × (Nat → Int32) × (Nat → Nat → Int32))} {A A' : Nat → Nat → Int32} {V : Nat → Int32} (ha : MLa N S F L pt len C sv A V) (h : ∀ j, j < 4 → A' j = A j) : MLa N S F L pt len C sv A' V := ha.w (by rw [h 0 (by decide)]; exact ha.1) (fun j hj _ => h j hj) rfl rfl rfl
set_option maxHeartbeats 4000000 in
set_option maxRecDepth 100000 in
 theorem m_before {G : GC} {B n m N : Nat} {S : Nat → Int32} {F : Nat → Nat → Int32} {L : Nat} {pt : Nat → Int32} {len : Nat} {C : Nat → Int32} {sv : Nat → Option (Nat × (Nat → Int32) × (Nat → Nat → Int32))} {h : HT} (hN : N ≤ 20) (hM : ML B m N S F L pt len C sv h) (hG : Gr N F) (x : Int32) : CtJ G B M9_before [.ref (B + m), .int x] n h 0 0 (fun r2 n2 h2 => r2 = some (.int (zRow N (bfN F N) x)) ∧ n2 = n ∧ ML B m N S F L pt len C sv h2 ∧ tk m h h2) := by
  obtain ⟨⟨rk, hr, hk⟩, hw, hB⟩ := hG
  obtain ⟨A, Wy, V, hh, ha⟩ := hM
  have hw0 := ha.1.1
  have fin0 : ML B m N S F L pt len C sv (wM B m A Wy V h) ∧ tk m h (wM B m A Wy V h) := MLa.fin ha
  unfold CtJ
  refine jj_lv (lv' := [some (.ref (B + m)), some (.int x)]) rfl ?_
  refine jj_h hh ?_
  refine jj_s (pc' := 1) rfl rfl ?_
  refine jj_s (pc' := 2) rfl rfl ?_
  refine jj_v1 rfl rfl rfl wM_o rfl rfl (c9_isItem hN hw0 _) ?_
  refine jj_zF 10 rfl rfl (fun c1 => ?_) (fun c1 => ?_)
  · obtain ⟨i, hi, rfl⟩ := isN_of hN c1
    refine jj_s (pc' := 11) rfl rfl ?_
    refine jj_vp0 rfl rfl rfl wM_o rfl rfl (c9_layAhead hN ha.1 hr hk hB) (fun r n' h' q => ?_)
    obtain ⟨rfl, rfl, A', rfl, hA, hb⟩ := q
    refine jj_s (pc' := 15) rfl rfl ?_
    refine jj_g rfl rfl wM_o rfl ?_
    refine jj_s (pc' := 19) rfl rfl ?_
    refine jj_mld 20 rfl rfl (by decide) (by first | assumption | omega) ?_
    exact jj_iret rfl rfl ⟨by rw [zRow, if_pos c1, ix_nI (by omega), hb i hi], rfl, MLa.fin (ha.sc (fun j hj => hA j (by omega)))⟩
  · refine jj_s (pc' := 9) rfl rfl ?_
    exact jj_iret rfl rfl ⟨by rw [zRow, if_neg (by rw [c1]; decide)]; rfl, rfl, fin0⟩
set_option maxHeartbeats 4000000 in
set_option maxRecDepth 100000 in
 theorem m_height {G : GC} {B n m N : Nat} {S : Nat → Int32} {F : Nat → Nat → Int32} {L : Nat} {pt : Nat → Int32} {len : Nat} {C : Nat → Int32} {sv : Nat → Option (Nat × (Nat → Int32) × (Nat → Nat → Int32))} {h : HT} (hN : N ≤ 20) (hM : ML B m N S F L pt len C sv h) (hG : Gr N F) (x : Int32) : CtJ G B M9_height [.ref (B + m), .int x] n h 0 0 (fun r2 n2 h2 => r2 = some (.int (zRow N (fun i => nI (hgN F N i)) x)) ∧ n2 = n ∧ ML B m N S F L pt len C sv h2 ∧ tk m h h2) := by
  obtain ⟨⟨rk, hr, hk⟩, hw, hB⟩ := hG
  obtain ⟨A, Wy, V, hh, ha⟩ := hM
  have hw0 := ha.1.1
  have fin0 : ML B m N S F L pt len C sv (wM B m A Wy V h) ∧ tk m h (wM B m A Wy V h) := MLa.fin ha
  unfold CtJ
  refine jj_lv (lv' := [some (.ref (B + m)), some (.int x)]) rfl ?_
  refine jj_h hh ?_
  refine jj_s (pc' := 1) rfl rfl ?_
  refine jj_s (pc' := 2) rfl rfl ?_
  refine jj_v1 rfl rfl rfl wM_o rfl rfl (c9_isItem hN hw0 _) ?_
  refine jj_zF 10 rfl rfl (fun c1 => ?_) (fun c1 => ?_)
  · obtain ⟨i, hi, rfl⟩ := isN_of hN c1
    refine jj_s (pc' := 11) rfl rfl ?_
    refine jj_vp0 rfl rfl rfl wM_o rfl rfl (c9_measure hN ha.1 hr hk hw) (fun r n' h' q => ?_)
    obtain ⟨rfl, rfl, A', rfl, hA, hb⟩ := q
    refine jj_s (pc' := 15) rfl rfl ?_
    refine jj_g rfl rfl wM_o rfl ?_
    refine jj_s (pc' := 19) rfl rfl ?_
    refine jj_mld 20 rfl rfl (by decide) (by first | assumption | omega) ?_
    exact jj_iret rfl rfl ⟨by rw [zRow, if_pos c1, ix_nI (by omega), (hb i hi).1], rfl, MLa.fin (ha.sc (fun j hj => hA j (by omega) (by omega)))⟩
  · refine jj_s (pc' := 9) rfl rfl ?_
    exact jj_iret rfl rfl ⟨by rw [zRow, if_neg (by rw [c1]; decide)]; rfl, rfl, fin0⟩
set_option maxHeartbeats 4000000 in
set_option maxRecDepth 100000 in
 theorem c9_rankOf {G : GC} {B n m : Nat} {A : Nat → Nat → Int32} {Wy : Nat → Int64} {V : Nat → Int32} {h : HT} {N : Nat} {S : Nat → Int32} {F : Nat → Nat → Int32} (hN : N ≤ 20) (hm : MW N S F (A 0)) {i : Nat} (hi : i < N) : CtJ G B M9_rankOf [.ref (B + m), .int (nI i)] n (wM B m A Wy V h) 0 0 (eqP (some (.int (rkN S F i (A 5 i)))) n (wM B m A Wy V h)) := by
  obtain ⟨g1, g2, g3, g4, g5, g6, g7⟩ := hm.2.2.1 i hi
  have s1 := hm.2.1 1 (by omega) (by omega)
  have s2 := hm.2.1 2 (by omega) (by omega)
  have last : ∀ z : Int32, z = rkN S F i (A 5 i) → JJ X0 G B M9_rankOf 70 [some (.ref (B + m)), some (.int (nI i)), some (.int z)] [] n (wM B m A Wy V h) 0 0 (eqP (some (.int (rkN S F i (A 5 i)))) n (wM B m A Wy V h)) := by
    intro z hz
    refine jj_s (pc' := 71) rfl rfl ?_
    exact jj_iret rfl rfl ⟨by rw [hz], rfl, rfl⟩
  unfold CtJ
  refine jj_lv (lv' := [some (.ref (B + m)), some (.int (nI i)), none]) rfl ?_
  refine jj_s (pc' := 2) rfl rfl ?_
  refine jj_s (pc' := 3) rfl rfl ?_
  refine jj_s (pc' := 4) rfl rfl ?_
  refine jj_s (pc' := 5) rfl rfl ?_
  refine jj_v2 rfl rfl rfl wM_o rfl rfl (c9_of (a := 0) (by omega) (by decide)) ?_
  rw [g1 0 (by omega)]
  refine jj_s (pc' := 9) rfl rfl ?_
  refine jj_s (pc' := 10) rfl rfl ?_
  refine jj_s (pc' := 11) rfl rfl ?_
  refine jj_g rfl rfl wM_o rfl ?_
  refine jj_s (pc' := 15) rfl rfl ?_
  refine jj_mld (i := 2) 645 rfl rfl (by decide) (by decide) ?_
  rw [s2]
  refine jj_s (pc' := 17) rfl rfl ?_
  refine jj_icmp_ne 29 rfl rfl (fun (c1 : ¬ S 2 = 1) => ?_) (fun (c1 : S 2 = 1) => ?_)
  · refine jj_s (pc' := 30) rfl rfl ?_
    refine jj_g rfl rfl wM_o rfl ?_
    refine jj_s (pc' := 34) rfl rfl ?_
    refine jj_mld (i := 2) 645 rfl rfl (by decide) (by decide) ?_
    rw [s2]
    refine jj_s (pc' := 36) rfl rfl ?_
    refine jj_icmp_ne 70 rfl rfl (fun (c2 : ¬ S 2 = 2) => ?_) (fun (c2 : S 2 = 2) => ?_)
    · refine last _ ?_
      rw [rkN, rkF, if_neg c1, if_neg c2, Int32.mul_comm]
      rfl
    · refine jj_s (pc' := 40) rfl rfl ?_
      refine jj_s (pc' := 41) rfl rfl ?_
      refine jj_s (pc' := 43) rfl rfl ?_
      refine jj_v2 rfl rfl rfl wM_o rfl rfl (c9_of (a := 8) (by omega) (by decide)) ?_
      rw [g3]
      refine jj_s (pc' := 47) rfl rfl ?_
      refine jj_icmp_ne 70 rfl rfl (fun (c3 : ¬ F 5 i = 1) => ?_) (fun (c3 : F 5 i = 1) => ?_)
      · refine last _ ?_
        rw [rkN, rkF, if_neg c1, if_pos c2, if_neg c3, Int32.mul_zero, Int32.add_zero, Int32.mul_comm]
        rfl
      · refine jj_s (pc' := 51) rfl rfl ?_
        refine jj_s (pc' := 53) rfl rfl ?_
        refine jj_s (pc' := 54) rfl rfl ?_
        refine jj_g rfl rfl wM_o rfl ?_
        refine jj_s (pc' := 58) rfl rfl ?_
        refine jj_mld (i := 1) 645 rfl rfl (by decide) (by decide) ?_
        refine jj_s (pc' := 60) rfl rfl ?_
        refine jj_s (pc' := 61) rfl rfl ?_
        refine jj_s (pc' := 63) rfl rfl ?_
        rw [s1]
        refine jj_v2 rfl rfl rfl wM_o rfl rfl (c9_of (a := 10) (by omega) (by decide)) ?_
        rw [(g5 c3).2]
        refine jj_s (pc' := 67) rfl rfl ?_
        refine jj_s (pc' := 68) rfl rfl ?_
        refine jj_s (pc' := 69) rfl rfl ?_
        refine jj_s (pc' := 70) rfl rfl ?_
        refine last _ ?_
        rw [rkN, rkF, if_neg c1, if_pos c2, if_pos c3, Int32.mul_comm (F 0 i)]
        rfl
  · refine jj_s (pc' := 21) rfl rfl ?_
    refine jj_s (pc' := 22) rfl rfl ?_
    refine jj_g rfl rfl wM_o rfl ?_
    refine jj_s (pc' := 26) rfl rfl ?_
    refine jj_mld 20 rfl rfl (by decide) (by first | assumption | omega) ?_
    refine jj_s (pc' := 28) rfl rfl ?_
    refine jj_s (pc' := 29) rfl rfl ?_
    refine jj_s (pc' := 30) rfl rfl ?_
    refine jj_g rfl rfl wM_o rfl ?_
    refine jj_s (pc' := 34) rfl rfl ?_
    refine jj_mld (i := 2) 645 rfl rfl (by decide) (by decide) ?_
    rw [s2]
    refine jj_s (pc' := 36) rfl rfl ?_
    refine jj_icmp_ne 70 rfl rfl (fun (c2 : ¬ S 2 = 2) => ?_) (fun (c2 : S 2 = 2) => absurd (c1.symm.trans c2) (by decide))
    refine last _ ?_
    rw [rkN, rkF, if_pos c1, Int32.mul_comm (F 0 i)]
    rfl
set_option maxHeartbeats 4000000 in
set_option maxRecDepth 100000 in
 theorem m_rank {G : GC} {B n m N : Nat} {S : Nat → Int32} {F : Nat → Nat → Int32} {L : Nat} {pt : Nat → Int32} {len : Nat} {C : Nat → Int32} {sv : Nat → Option (Nat × (Nat → Int32) × (Nat → Nat → Int32))} {h : HT} (hN : N ≤ 20) (hM : ML B m N S F L pt len C sv h) (hG : Gr N F) (x : Int32) : CtJ G B M9_rank [.ref (B + m), .int x] n h 0 0 (fun r2 n2 h2 => r2 = some (.int (zRow N (fun i => rkN S F i (nI (hgN F N i))) x)) ∧ n2 = n ∧ ML B m N S F L pt len C sv h2 ∧ tk m h h2) := by
  obtain ⟨⟨rk, hr, hk⟩, hw, hB⟩ := hG
  obtain ⟨A, Wy, V, hh, ha⟩ := hM
  have hw0 := ha.1.1
  have fin0 : ML B m N S F L pt len C sv (wM B m A Wy V h) ∧ tk m h (wM B m A Wy V h) := MLa.fin ha
  unfold CtJ
  refine jj_lv (lv' := [some (.ref (B + m)), some (.int x)]) rfl ?_
  refine jj_h hh ?_
  refine jj_s (pc' := 1) rfl rfl ?_
  refine jj_s (pc' := 2) rfl rfl ?_
  refine jj_v1 rfl rfl rfl wM_o rfl rfl (c9_isItem hN hw0 _) ?_
  refine jj_zF 10 rfl rfl (fun c1 => ?_) (fun c1 => ?_)
  · obtain ⟨i, hi, rfl⟩ := isN_of hN c1
    refine jj_s (pc' := 11) rfl rfl ?_
    refine jj_vp0 rfl rfl rfl wM_o rfl rfl (c9_measure hN ha.1 hr hk hw) (fun r n' h' q => ?_)
    obtain ⟨rfl, rfl, A', rfl, hA, hb⟩ := q
    have ha' := ha.sc (A' := A') (fun j hj => hA j (by omega) (by omega))
    refine jj_s (pc' := 15) rfl rfl ?_
    refine jj_s (pc' := 16) rfl rfl ?_
    refine jj_v1 rfl rfl rfl wM_o rfl rfl (c9_rankOf hN ha'.1 hi) ?_
    exact jj_iret rfl rfl ⟨by rw [zRow, if_pos c1, ix_nI (by omega), (hb i hi).1], rfl, MLa.fin ha'⟩
  · refine jj_s (pc' := 9) rfl rfl ?_
    exact jj_iret rfl rfl ⟨by rw [zRow, if_neg (by rw [c1]; decide)]; rfl, rfl, fin0⟩
set_option maxHeartbeats 4000000 in
set_option maxRecDepth 100000 in
 theorem c9_canReceive {G : GC} {B n m : Nat} {A : Nat → Nat → Int32} {Wy : Nat → Int64} {V : Nat → Int32} {h : HT} {N : Nat} {S : Nat → Int32} {F : Nat → Nat → Int32} (hN : N ≤ 20) (hm : MW N S F (A 0)) {i : Nat} (hi : i < N) : CtJ G B M9_canReceive [.ref (B + m), .int (nI i)] n (wM B m A Wy V h) 0 0 (eqP (some (.int (bI (cbr S F N i)))) n (wM B m A Wy V h)) := by
  have hw0 := hm.1
  obtain ⟨g1, g2, g3, g4, g5, g6, g7⟩ := hm.2.2.1 i hi
  unfold CtJ
  refine jj_lv (lv' := [some (.ref (B + m)), some (.int (nI i)), none, none]) rfl ?_
  refine jj_s (pc' := 1) rfl rfl ?_
  refine jj_s (pc' := 2) rfl rfl ?_
  refine jj_s (pc' := 3) rfl rfl ?_
  refine jj_s (pc' := 4) rfl rfl ?_
  have L1 : ∀ d k, k ≤ N → N + 1 ≤ k + d → JJ X0 G B M9_canReceive 4 [some (.ref (B + m)), some (.int (nI i)), some (.int (nI (cn (fun j => decide (F 5 j = 2 ∧ F 3 j = F 3 i)) k))), some (.int (nI k))] [] n (wM B m A Wy V h) 0 0 (eqP (some (.int (bI (cbr S F N i)))) n (wM B m A Wy V h)) := by
    intro d
    induction d with
    | zero => intro k h1 h2; exact absurd h2 (by omega)
    | succ d ih =>
      intro k h1 h2
      refine jj_s (pc' := 5) rfl rfl ?_
      refine jj_s (pc' := 6) rfl rfl ?_
      refine jj_g rfl rfl wM_o rfl ?_
      refine jj_s (pc' := 10) rfl rfl ?_
      refine jj_m0 hw0 rfl ?_
      refine jj_geN 54 rfl rfl (by omega) (by omega) (fun c => ?_) (fun c => ?_)
      · have hkN : k = N := by omega
        subst hkN
        have no : ¬ (F 5 i = 1 ∧ F 6 i ≤ S 1 ∧ nI (cn (fun j => decide (F 5 j = 2 ∧ F 3 j = F 3 i)) k) < S 3) → JJ X0 G B M9_canReceive 95 [some (.ref (B + m)), some (.int (nI i)), some (.int (nI (cn (fun j => decide (F 5 j = 2 ∧ F 3 j = F 3 i)) k))), some (.int (nI k))] [] n (wM B m A Wy V h) 0 0 (eqP (some (.int (bI (cbr S F k i)))) n (wM B m A Wy V h)) := by
          intro hb
          refine jj_s (pc' := 96) rfl rfl ?_
          exact jj_zret rfl rfl (Or.inl rfl) ⟨by rw [cbr, decide_eq_false hb]; rfl, rfl, rfl⟩
        refine jj_s (pc' := 55) rfl rfl ?_
        refine jj_s (pc' := 56) rfl rfl ?_
        refine jj_s (pc' := 58) rfl rfl ?_
        refine jj_v2 rfl rfl rfl wM_o rfl rfl (c9_of (a := 8) (by omega) (by decide)) ?_
        rw [g3]
        refine jj_s (pc' := 62) rfl rfl ?_
        refine jj_icmp_ne 95 rfl rfl (fun (c1 : ¬ F 5 i = 1) => no (fun z => c1 z.1)) (fun (c1 : F 5 i = 1) => ?_)
        refine jj_s (pc' := 66) rfl rfl ?_
        refine jj_s (pc' := 67) rfl rfl ?_
        refine jj_s (pc' := 69) rfl rfl ?_
        refine jj_v2 rfl rfl rfl wM_o rfl rfl (c9_of (a := 6) (by omega) (by decide)) ?_
        rw [(g5 c1).1]
        refine jj_s (pc' := 73) rfl rfl ?_
        refine jj_g rfl rfl wM_o rfl ?_
        refine jj_s (pc' := 77) rfl rfl ?_
        refine jj_mld (i := 1) 645 rfl rfl (by decide) (by decide) ?_
        rw [hm.2.1 1 (by omega) (by omega)]
        refine jj_icmp_gt 95 rfl rfl (fun c2 => no (fun z => Int32.not_le.mpr c2 z.2.1)) (fun c2 => ?_)
        refine jj_s (pc' := 82) rfl rfl ?_
        refine jj_s (pc' := 83) rfl rfl ?_
        refine jj_g rfl rfl wM_o rfl ?_
        refine jj_s (pc' := 87) rfl rfl ?_
        refine jj_mld (i := 3) 645 rfl rfl (by decide) (by decide) ?_
        rw [hm.2.1 3 (by omega) (by omega)]
        refine jj_icmp_ge 95 rfl rfl (fun c3 => no (fun z => Int32.not_lt.mpr c3 z.2.2)) (fun c3 => ?_)
        refine jj_s (pc' := 92) rfl rfl ?_
        refine jj_s (pc' := 96) rfl rfl ?_
        exact jj_zret rfl rfl (Or.inr rfl) ⟨by rw [cbr, decide_eq_true ⟨c1, Int32.not_lt.mp c2, Int32.not_le.mp c3⟩]; rfl, rfl, rfl⟩
      · obtain ⟨k1, k2, k3, k4, k5, k6, k7⟩ := hm.2.2.1 k c
        have no : ¬ (F 5 k = 2 ∧ F 3 k = F 3 i) → JJ X0 G B M9_canReceive 45 [some (.ref (B + m)), some (.int (nI i)), some (.int (nI (cn (fun j => decide (F 5 j = 2 ∧ F 3 j = F 3 i)) k))), some (.int (nI k))] [.int (nI (cn (fun j => decide (F 5 j = 2 ∧ F 3 j = F 3 i)) k))] n (wM B m A Wy V h) 0 0 (eqP (some (.int (bI (cbr S F N i)))) n (wM B m A Wy V h)) := by
          intro hb
          refine jj_s (pc' := 46) rfl rfl ?_
          refine jj_s (pc' := 47) rfl rfl ?_
          refine jj_s (pc' := 48) rfl rfl ?_
          first | refine jj_inc rfl rfl ?_ | refine jj_s (pc' := 51) rfl rfl ?_
          refine jj_s (pc' := 4) rfl rfl ?_
          refine jj_lv ?_ (ih (k + 1) (by omega) (by omega))
          have e1 : nI (cn (fun j => decide (F 5 j = 2 ∧ F 3 j = F 3 i)) k) + 0 = nI (cn (fun j => decide (F 5 j = 2 ∧ F 3 j = F 3 i)) (k + 1)) := by
            rw [cn, if_neg (by simpa using hb), Nat.add_zero, Int32.add_zero]
          exact congrArg (fun z => [some (Value.ref (B + m)), some (Value.int (nI i)), some (Value.int z), some (Value.int (nI (k + 1)))]) e1
        refine jj_s (pc' := 15) rfl rfl ?_
        refine jj_s (pc' := 16) rfl rfl ?_
        refine jj_s (pc' := 17) rfl rfl ?_
        refine jj_s (pc' := 19) rfl rfl ?_
        refine jj_v2 rfl rfl rfl wM_o rfl rfl (c9_of (a := 8) (by omega) (by decide)) ?_
        rw [k3]
        refine jj_s (pc' := 23) rfl rfl ?_
        refine jj_icmp_ne 45 rfl rfl (fun (c1 : ¬ F 5 k = 2) => no (fun z => c1 z.1)) (fun (c1 : F 5 k = 2) => ?_)
        refine jj_s (pc' := 27) rfl rfl ?_
        refine jj_s (pc' := 28) rfl rfl ?_
        refine jj_s (pc' := 29) rfl rfl ?_
        refine jj_v2 rfl rfl rfl wM_o rfl rfl (c9_of (a := 3) (by omega) (by decide)) ?_
        rw [k1 3 (by omega)]
        refine jj_s (pc' := 33) rfl rfl ?_
        refine jj_s (pc' := 34) rfl rfl ?_
        refine jj_s (pc' := 35) rfl rfl ?_
        refine jj_v2 rfl rfl rfl wM_o rfl rfl (c9_of (a := 3) (by omega) (by decide)) ?_
        rw [g1 3 (by omega)]
        refine jj_icmp_ne 45 rfl rfl (fun (c2 : ¬ F 3 k = F 3 i) => no (fun z => c2 z.2)) (fun (c2 : F 3 k = F 3 i) => ?_)
        refine jj_s (pc' := 42) rfl rfl ?_
        refine jj_s (pc' := 46) rfl rfl ?_
        refine jj_s (pc' := 47) rfl rfl ?_
        refine jj_s (pc' := 48) rfl rfl ?_
        first | refine jj_inc rfl rfl ?_ | refine jj_s (pc' := 51) rfl rfl ?_
        refine jj_s (pc' := 4) rfl rfl ?_
        refine jj_lv ?_ (ih (k + 1) (by omega) (by omega))
        have e1 : nI (cn (fun j => decide (F 5 j = 2 ∧ F 3 j = F 3 i)) k) + 1 = nI (cn (fun j => decide (F 5 j = 2 ∧ F 3 j = F 3 i)) (k + 1)) := by
          rw [cn, if_pos (decide_eq_true ⟨c1, c2⟩), nI_1]
        exact congrArg (fun z => [some (Value.ref (B + m)), some (Value.int (nI i)), some (Value.int z), some (Value.int (nI (k + 1)))]) e1
  exact L1 (N + 1) 0 (by omega) (by omega)
theorem MW.to {N : Nat} {S : Nat → Int32} {F : Nat → Nat → Int32} {w w' : Nat → Int32} {i : Nat} (hm : MW N S F w) (hN : N ≤ 20) (hi : i < N) {v : Int32} (hw : ∀ k, w' k = if k = 5 + 12 * i + 9 then S 4 + 1 else if k = 5 + 12 * i + 5 then F 9 i + 1 else if k = 5 + 12 * i + 7 then S 1 + v else if k = 5 + 12 * i + 8 then 2 else if k = 4 then S 4 + 1 else w k) : MW N (upd S 4 (S 4 + 1)) (toF S F i v) w' := by
  have h1 := hm.sc (k := 4) (by omega) (by omega) (S 4 + 1)
  have ne : ∀ k, k ≠ 5 + 12 * i + 9 → k ≠ 5 + 12 * i + 5 → k ≠ 5 + 12 * i + 7 → k ≠ 5 + 12 * i + 8 → w' k = upd w 4 (S 4 + 1) k := fun k h1 h2 h3 h4 => by
    rw [hw, if_neg h1, if_neg h2, if_neg h3, if_neg h4]
    unfold upd
    rfl
  have eF : ∀ a, a ≠ 5 → a ≠ 8 → a ≠ 9 → a ≠ 10 → toF S F i v a = F a := fun a h1 h2 h3 h4 => by unfold toF; rw [uF_j _ _ _ _ h4, uF_j _ _ _ _ h3, uF_j _ _ _ _ h2, uF_j _ _ _ _ h1]
  have e5 : toF S F i v 5 i = 2 := by unfold toF; rw [uF_j _ _ _ _ (by decide), uF_j _ _ _ _ (by decide), uF_j _ _ _ _ (by decide), uF_s]
  have e8 : toF S F i v 8 i = S 1 + v := by unfold toF; rw [uF_j _ _ _ _ (by decide), uF_j _ _ _ _ (by decide), uF_s]
  have e9 : toF S F i v 9 i = F 9 i + 1 := by unfold toF; rw [uF_j _ _ _ _ (by decide), uF_s]
  have e10 : toF S F i v 10 i = S 4 + 1 := by unfold toF; rw [uF_s]
  refine h1.row (i := i) (by omega) (fun k hk => ne k (by omega) (by omega) (by omega) (by omega)) (fun a j hj => by unfold toF; rw [uF_i _ _ _ _ hj, uF_i _ _ _ _ hj, uF_i _ _ _ _ hj, uF_i _ _ _ _ hj]) (by rw [eF 11 (by decide) (by decide) (by decide) (by decide)]) (by rw [eF 12 (by decide) (by decide) (by decide) (by decide)]) ?_
  obtain ⟨g1, g2, g3, g4, g5, g6, g7⟩ := h1.2.2.1 i hi
  refine ⟨fun a ha => ?_, ?_, ?_, ?_, fun e => absurd (e5.symm.trans e) (by decide), fun e => ?_, by rw [e5]; decide⟩
  · show w' _ = _
    rw [ne _ (by omega) (by omega) (by omega) (by omega), eF a (by omega) (by omega) (by omega) (by omega)]; exact g1 a ha
  · show w' _ = _
    rw [hw, if_neg (by omega), if_pos rfl, e9]
  · show w' _ = _
    rw [hw, if_neg (by omega), if_neg (by omega), if_neg (by omega), if_pos rfl, e5]
  · show w' _ = _
    rw [hw, if_pos rfl, e10]
  · show w' _ = _
    rw [hw, if_neg (by omega), if_neg (by omega), if_pos rfl, e8]
set_option maxHeartbeats 4000000 in
set_option maxRecDepth 100000 in
 theorem m_receive {G : GC} {B n m N : Nat} {S : Nat → Int32} {F : Nat → Nat → Int32} {L : Nat} {pt : Nat → Int32} {len : Nat} {C : Nat → Int32} {sv : Nat → Option (Nat × (Nat → Int32) × (Nat → Nat → Int32))} {h : HT} (hN : N ≤ 20) (hM : ML B m N S F L pt len C sv h) (hG : Gr N F) (x : Int32) : CtJ G B M9_receive [.ref (B + m), .int x] n h 0 0 (fun r2 n2 h2 => r2 = some (.int ((zRec N S F (fun i => nI (hgN F N i)) x).1)) ∧ n2 = n ∧ ML B m N (zRec N S F (fun i => nI (hgN F N i)) x).2.1 (zRec N S F (fun i => nI (hgN F N i)) x).2.2 L pt len C sv h2 ∧ tk m h h2) := by
  obtain ⟨⟨rk, hr, hk⟩, hw, hB⟩ := hG
  obtain ⟨A, Wy, V, hh, ha⟩ := hM
  have hw0 := ha.1.1
  have fin0 : ML B m N S F L pt len C sv (wM B m A Wy V h) ∧ tk m h (wM B m A Wy V h) := MLa.fin ha
  unfold CtJ
  refine jj_lv (lv' := [some (.ref (B + m)), some (.int x), none, none]) rfl ?_
  refine jj_h hh ?_
  refine jj_s (pc' := 1) rfl rfl ?_
  refine jj_s (pc' := 2) rfl rfl ?_
  refine jj_s (pc' := 4) rfl rfl ?_
  refine jj_t3 rfl rfl rfl rfl rfl (c9_isIn x 1 30) ?_
  refine jj_zF 13 rfl rfl (fun c1 => ?_) (fun c1 => ?_)
  · refine jj_s (pc' := 14) rfl rfl ?_
    refine jj_vp0 rfl rfl rfl wM_o rfl rfl (c9_measure hN ha.1 hr hk hw) (fun r n' h' q => ?_)
    obtain ⟨rfl, rfl, A', rfl, hA, hb⟩ := q
    have ha' := ha.sc (A' := A') (fun j hj => hA j (by omega) (by omega))
    have hw0 := ha'.1.1
    refine jj_s (pc' := 19) rfl rfl ?_
    refine jj_s (pc' := 20) rfl rfl ?_
    refine jj_s (pc' := 21) rfl rfl ?_
    refine jj_s (pc' := 22) rfl rfl ?_
    have L1 : ∀ d k, k ≤ N → N + 1 ≤ k + d → JJ X0 G B M9_receive 22 [some (.ref (B + m)), some (.int x), some (.int (enc (pkB (cbr S F N) (fun i => rkN S F i (nI (hgN F N i))) k))), some (.int (nI k))] [] n' (wM B m A' Wy V h) 0 0 (fun r2 n2 h2 => r2 = some (.int ((zRec N S F (fun i => nI (hgN F N i)) x).1)) ∧ n2 = n' ∧ ML B m N (zRec N S F (fun i => nI (hgN F N i)) x).2.1 (zRec N S F (fun i => nI (hgN F N i)) x).2.2 L pt len C sv h2 ∧ tk m h h2) := by
      intro d
      induction d with
      | zero => intro k h1 h2; exact absurd h2 (by omega)
      | succ d ih =>
        intro k h1 h2
        refine jj_s (pc' := 23) rfl rfl ?_
        refine jj_s (pc' := 24) rfl rfl ?_
        refine jj_g rfl rfl wM_o rfl ?_
        refine jj_s (pc' := 28) rfl rfl ?_
        refine jj_m0 hw0 rfl ?_
        refine jj_geN 67 rfl rfl (by omega) (by omega) (fun c => ?_) (fun c => ?_)
        · have hkN : k = N := by omega
          subst hkN
          cases hp : pkB (cbr S F k) (fun i => rkN S F i (nI (hgN F k i))) k with
          | none =>
            have e : zRec k S F (fun i => nI (hgN F k i)) x = (-7, S, F) := by rw [zRec, if_pos c1, hp]
            rw [e]
            refine jj_s (pc' := 68) rfl rfl ?_
            refine jj_s (pc' := 70) rfl rfl ?_
            refine jj_icmp_eq 133 rfl rfl (fun _ => ?_) (fun c2 => absurd rfl c2)
            refine jj_s (pc' := 134) rfl rfl ?_
            exact jj_iret rfl rfl ⟨rfl, rfl, MLa.fin ha'⟩
          | some b =>
            have hbN := (pkB_lt _ _ _ _ hp).1
            have e : zRec k S F (fun i => nI (hgN F k i)) x = (nI b, upd S 4 (S 4 + 1), toF S F b x) := by rw [zRec, if_pos c1, hp]
            rw [e]
            obtain ⟨g1, g2, g3, g4, g5, g6, g7⟩ := ha'.1.2.2.1 b hbN
            refine jj_s (pc' := 68) rfl rfl ?_
            refine jj_s (pc' := 70) rfl rfl ?_
            refine jj_icmp_eq 133 rfl rfl (fun c2 => absurd c2 (enc_ne (by omega))) (fun c2 => ?_)
            refine jj_lv (lv' := [some (.ref (B + m)), some (.int x), some (.int (nI b)), some (.int (nI k))]) rfl ?_
            refine jj_s (pc' := 74) rfl rfl ?_
            refine jj_g rfl rfl wM_o rfl ?_
            refine jj_s (pc' := 78) rfl rfl ?_
            refine jj_s (pc' := 79) rfl rfl ?_
            refine jj_mld (i := 4) 645 rfl rfl (by decide) (by decide) ?_
            rw [ha'.1.2.1 4 (by omega) (by omega)]
            refine jj_s (pc' := 81) rfl rfl ?_
            refine jj_s (pc' := 82) rfl rfl ?_
            refine jj_mst (j := 0) (i := 4) 645 rfl rfl (by decide) (by decide) ?_
            refine jj_s (pc' := 84) rfl rfl ?_
            refine jj_s (pc' := 85) rfl rfl ?_
            refine jj_s (pc' := 87) rfl rfl ?_
            refine jj_s (pc' := 88) rfl rfl ?_
            refine jj_w3 rfl rfl rfl wM_o rfl rfl (c9_set (a := 8) (by omega) (by decide) _) ?_
            refine jj_s (pc' := 92) rfl rfl ?_
            refine jj_s (pc' := 93) rfl rfl ?_
            refine jj_s (pc' := 95) rfl rfl ?_
            refine jj_s (pc' := 96) rfl rfl ?_
            refine jj_g rfl rfl wM_o rfl ?_
            refine jj_s (pc' := 100) rfl rfl ?_
            refine jj_mld (i := 1) 645 rfl rfl (by decide) (by decide) ?_
            refine jj_s (pc' := 102) rfl rfl ?_
            refine jj_s (pc' := 103) rfl rfl ?_
            refine jj_w3 rfl rfl rfl wM_o rfl rfl (c9_set (a := 7) (by omega) (by decide) _) ?_
            refine jj_s (pc' := 107) rfl rfl ?_
            refine jj_s (pc' := 108) rfl rfl ?_
            refine jj_s (pc' := 109) rfl rfl ?_
            refine jj_s (pc' := 110) rfl rfl ?_
            refine jj_s (pc' := 111) rfl rfl ?_
            refine jj_s (pc' := 112) rfl rfl ?_
            refine jj_v2 rfl rfl rfl wM_o rfl rfl (c9_of (a := 5) (by omega) (by decide)) ?_
            refine jj_s (pc' := 116) rfl rfl ?_
            refine jj_s (pc' := 117) rfl rfl ?_
            refine jj_w3 rfl rfl rfl wM_o rfl rfl (c9_set (a := 5) (by omega) (by decide) _) ?_
            refine jj_s (pc' := 121) rfl rfl ?_
            refine jj_s (pc' := 122) rfl rfl ?_
            refine jj_s (pc' := 124) rfl rfl ?_
            refine jj_s (pc' := 125) rfl rfl ?_
            refine jj_g rfl rfl wM_o rfl ?_
            refine jj_s (pc' := 129) rfl rfl ?_
            refine jj_mld (i := 4) 645 rfl rfl (by decide) (by decide) ?_
            refine jj_w3 rfl rfl rfl wM_o rfl rfl (c9_set (a := 9) (by omega) (by decide) _) ?_
            refine jj_s (pc' := 134) rfl rfl ?_
            refine jj_iret rfl rfl ⟨rfl, rfl, MLa.fin (ha'.w (ha'.1.to hN hbN fun q => ?_) (fun j _ h0 => by rw [uF_j _ _ _ _ h0, uF_j _ _ _ _ h0, uF_j _ _ _ _ h0, uF_j _ _ _ _ h0, uF_j _ _ _ _ h0]) rfl rfl rfl)⟩
            have s1 := ha'.1.2.1 1 (by omega) (by omega)
            simp only [uF_same]
            have u : ∀ (f : Nat → Int32) (a b : Nat) (z : Int32), upd f a z b = if b = a then z else f b := fun f a b z => rfl
            simp only [u]
            rw [if_neg (show ¬ 1 = 5 + 12 * b + 8 by omega), if_neg (show ¬ 1 = 4 by omega), if_neg (show ¬ 4 = 5 + 12 * b + 5 by omega), if_neg (show ¬ 4 = 5 + 12 * b + 7 by omega), if_neg (show ¬ 4 = 5 + 12 * b + 8 by omega), if_neg (show ¬ 5 + 12 * b + 5 = 5 + 12 * b + 7 by omega), if_neg (show ¬ 5 + 12 * b + 5 = 5 + 12 * b + 8 by omega), if_neg (show ¬ 5 + 12 * b + 5 = 4 by omega), if_pos trivial, s1, show A' 0 (5 + 12 * b + 5) = F 9 b from g2]
            rfl
        · refine jj_s (pc' := 33) rfl rfl ?_
          refine jj_s (pc' := 34) rfl rfl ?_
          refine jj_v1 rfl rfl rfl wM_o rfl rfl (c9_canReceive hN ha'.1 c) ?_
          refine jj_zT 61 rfl rfl (fun c2 => ?_) (fun c2 => ?_)
          · first | refine jj_inc rfl rfl ?_ | refine jj_s (pc' := 64) rfl rfl ?_
            refine jj_s (pc' := 22) rfl rfl ?_
            refine jj_lv ?_ (ih (k + 1) (by omega) (by omega))
            rw [pkB_skip c2]; rfl
          · refine jj_s (pc' := 41) rfl rfl ?_
            refine jj_s (pc' := 43) rfl rfl ?_
            cases hp : pkB (cbr S F N) (fun i => rkN S F i (nI (hgN F N i))) k with
            | none =>
              refine jj_icmp_eq 59 rfl rfl (fun _ => ?_) (fun c3 => absurd rfl c3)
              refine jj_s (pc' := 60) rfl rfl ?_
              refine jj_s (pc' := 61) rfl rfl ?_
              first | refine jj_inc rfl rfl ?_ | refine jj_s (pc' := 64) rfl rfl ?_
              refine jj_s (pc' := 22) rfl rfl ?_
              refine jj_lv ?_ (ih (k + 1) (by omega) (by omega))
              rw [pkB_none hp c2]; rfl
            | some b =>
              have hbk := (pkB_lt _ _ _ _ hp).1
              refine jj_icmp_eq 59 rfl rfl (fun c3 => absurd c3 (enc_ne (by omega))) (fun c3 => ?_)
              refine jj_lv (lv' := [some (.ref (B + m)), some (.int x), some (.int (nI b)), some (.int (nI k))]) rfl ?_
              refine jj_s (pc' := 47) rfl rfl ?_
              refine jj_s (pc' := 48) rfl rfl ?_
              refine jj_v1 rfl rfl rfl wM_o rfl rfl (c9_rankOf hN ha'.1 c) ?_
              refine jj_s (pc' := 52) rfl rfl ?_
              refine jj_s (pc' := 53) rfl rfl ?_
              refine jj_v1 rfl rfl rfl wM_o rfl rfl (c9_rankOf hN ha'.1 (show b < N by omega)) ?_
              rw [(hb k c).1, (hb b (by omega)).1]
              refine jj_icmp_le 61 rfl rfl (fun c4 => ?_) (fun c4 => ?_)
              · first | refine jj_inc rfl rfl ?_ | refine jj_s (pc' := 64) rfl rfl ?_
                refine jj_s (pc' := 22) rfl rfl ?_
                refine jj_lv ?_ (ih (k + 1) (by omega) (by omega))
                rw [pkB_lose hp (Int32.not_lt.mpr c4)]; rfl
              · refine jj_s (pc' := 60) rfl rfl ?_
                refine jj_s (pc' := 61) rfl rfl ?_
                first | refine jj_inc rfl rfl ?_ | refine jj_s (pc' := 64) rfl rfl ?_
                refine jj_s (pc' := 22) rfl rfl ?_
                refine jj_lv ?_ (ih (k + 1) (by omega) (by omega))
                rw [pkB_win hp c2 (Int32.not_le.mp c4)]; rfl
    exact L1 (N + 1) 0 (by omega) (by omega)
  · have e : zRec N S F (fun i => nI (hgN F N i)) x = (-2, S, F) := by rw [zRec, if_neg (by rw [c1]; decide)]
    rw [e]
    refine jj_s (pc' := 12) rfl rfl ?_
    exact jj_iret rfl rfl ⟨rfl, rfl, fin0⟩
