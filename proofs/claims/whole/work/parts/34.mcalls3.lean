/-! more of the reference's calls -/
theorem MW.f8 {N : Nat} {S : Nat → Int32} {F : Nat → Nat → Int32} {w : Nat → Int32} {i : Nat} (hm : MW N S F w) (hN : N ≤ 20) (hi : i < N) (x : Int32) : MW N S (uF F 8 i x) (upd w (5 + 12 * i + 7) x) := by
  refine hm.row (i := i) (by omega) (fun k hk => pk_un (by omega)) (fun b j hj => uF_i _ _ _ _ hj _) (by rw [uF_j _ _ _ _ (by decide)]) (by rw [uF_j _ _ _ _ (by decide)]) ?_
  obtain ⟨g1, g2, g3, g4, g5, g6, g7⟩ := hm.2.2.1 i hi
  have eF : ∀ b, b ≠ 8 → uF F 8 i x b = F b := fun b hb => uF_j _ _ _ _ hb
  have ew : ∀ b, b ≠ 7 → ofW (upd w (5 + 12 * i + 7) x) i b = ofW w i b := fun b hb => pk_un (by omega)
  refine ⟨fun b hb => by rw [ew b (by omega), eF b (by omega)]; exact g1 b hb, by rw [ew 5 (by decide), eF 9 (by decide)]; exact g2, by rw [ew 8 (by decide), eF 5 (by decide)]; exact g3, by rw [ew 9 (by decide), eF 10 (by decide)]; exact g4, fun e => ?_, fun e => ?_, by rw [eF 5 (by decide)]; exact g7⟩
  · rw [eF 5 (by decide)] at e
    rw [ew 6 (by decide), ew 10 (by decide), eF 6 (by decide), eF 7 (by decide)]; exact g5 e
  · rw [uF_s]; exact pk_us
theorem MW.rv {N : Nat} {S : Nat → Int32} {F : Nat → Nat → Int32} {w w' : Nat → Int32} {i : Nat} (hm : MW N S F w) (hN : N ≤ 20) (hi : i < N) (hw : ∀ k, w' k = if k = 5 + 12 * i + 9 then -7 else if k = 5 + 12 * i + 5 then 0 else if k = 5 + 12 * i + 8 then 0 else w k) : MW N S (uF (uF (uF F 5 i 0) 9 i 0) 10 i (-7)) w' := by
  have ne : ∀ k, k ≠ 5 + 12 * i + 9 → k ≠ 5 + 12 * i + 5 → k ≠ 5 + 12 * i + 8 → w' k = w k := fun k h1 h2 h3 => by rw [hw, if_neg h1, if_neg h2, if_neg h3]
  have eF : ∀ a, a ≠ 5 → a ≠ 9 → a ≠ 10 → uF (uF (uF F 5 i 0) 9 i 0) 10 i (-7) a = F a := fun a h1 h2 h3 => by rw [uF_j _ _ _ _ h3, uF_j _ _ _ _ h2, uF_j _ _ _ _ h1]
  have e5 : uF (uF (uF F 5 i 0) 9 i 0) 10 i (-7) 5 i = 0 := by rw [uF_j _ _ _ _ (by decide), uF_j _ _ _ _ (by decide), uF_s]
  refine hm.row (i := i) (by omega) (fun k hk => ne k (by omega) (by omega) (by omega)) (fun a j hj => by rw [uF_i _ _ _ _ hj, uF_i _ _ _ _ hj, uF_i _ _ _ _ hj]) (by rw [eF 11 (by decide) (by decide) (by decide)]) (by rw [eF 12 (by decide) (by decide) (by decide)]) ?_
  obtain ⟨g1, g2, g3, g4, g5, g6, g7⟩ := hm.2.2.1 i hi
  refine ⟨fun a ha => ?_, ?_, ?_, ?_, fun e => absurd (e5.symm.trans e) (by decide), fun e => absurd (e5.symm.trans e) (by decide), by rw [e5]; decide⟩
  · show w' _ = _
    rw [ne _ (by omega) (by omega) (by omega), eF a (by omega) (by omega) (by omega)]; exact g1 a ha
  · show w' _ = _
    rw [hw, if_neg (by omega), if_pos rfl, uF_j _ _ _ _ (by decide), uF_s]
  · show w' _ = _
    rw [hw, if_neg (by omega), if_neg (by omega), if_pos rfl, e5]
  · show w' _ = _
    rw [hw, if_pos rfl, uF_s]
set_option maxHeartbeats 4000000 in
set_option maxRecDepth 100000 in
 theorem m_extend {G : GC} {B n m N : Nat} {S : Nat → Int32} {F : Nat → Nat → Int32} {L : Nat} {pt : Nat → Int32} {len : Nat} {C : Nat → Int32} {sv : Nat → Option (Nat × (Nat → Int32) × (Nat → Nat → Int32))} {h : HT} (hN : N ≤ 20) (hM : ML B m N S F L pt len C sv h) (x r v : Int32) : CtJ G B M9_extend [.ref (B + m), .int x, .int r, .int v] n h 0 0 (fun r2 n2 h2 => r2 = some (.int ((zExt N S F x r v).1)) ∧ n2 = n ∧ ML B m N S (zExt N S F x r v).2 L pt len C sv h2 ∧ tk m h h2) := by
  obtain ⟨A, Wy, V, hh, ha⟩ := hM
  have hw0 := ha.1.1
  have fin0 : ML B m N S F L pt len C sv (wM B m A Wy V h) ∧ tk m h (wM B m A Wy V h) := MLa.fin ha
  unfold CtJ
  refine jj_lv (lv' := [some (.ref (B + m)), some (.int x), some (.int r), some (.int v), none]) rfl ?_
  refine jj_h hh ?_
  refine jj_s (pc' := 1) rfl rfl ?_
  refine jj_s (pc' := 2) rfl rfl ?_
  refine jj_v1 rfl rfl rfl wM_o rfl rfl (c9_isItem hN hw0 _) ?_
  refine jj_zF 10 rfl rfl (fun c1 => ?_) (fun c1 => ?_)
  · obtain ⟨i, hi, rfl⟩ := isN_of hN c1
    obtain ⟨g1, g2, g3, g4, g5, g6, g7⟩ := ha.1.2.2.1 i hi
    refine jj_s (pc' := 11) rfl rfl ?_
    refine jj_s (pc' := 12) rfl rfl ?_
    refine jj_s (pc' := 14) rfl rfl ?_
    refine jj_t3 rfl rfl rfl rfl rfl (c9_isIn v 1 30) ?_
    refine jj_zF 23 rfl rfl (fun c2 => ?_) (fun c2 => ?_)
    · refine jj_s (pc' := 24) rfl rfl ?_
      refine jj_s (pc' := 25) rfl rfl ?_
      refine jj_s (pc' := 26) rfl rfl ?_
      refine jj_v2 rfl rfl rfl wM_o rfl rfl (c9_isValid (by omega) _) ?_
      rw [g3, g4]
      refine jj_zF 35 rfl rfl (fun c3 => ?_) (fun c3 => ?_)
      · have c3 := of_decide_eq_true c3
        have e : zExt N S F (nI i) r v = (F 8 i, uF F 8 i (S 1 + v)) := by rw [zExt, if_pos c1, if_pos c2, ix_nI (by omega), if_pos c3]
        rw [e]
        refine jj_s (pc' := 36) rfl rfl ?_
        refine jj_s (pc' := 37) rfl rfl ?_
        refine jj_s (pc' := 39) rfl rfl ?_
        refine jj_v2 rfl rfl rfl wM_o rfl rfl (c9_of (a := 7) (by omega) (by decide)) ?_
        rw [g6 c3.1]
        refine jj_s (pc' := 44) rfl rfl ?_
        refine jj_s (pc' := 45) rfl rfl ?_
        refine jj_s (pc' := 46) rfl rfl ?_
        refine jj_s (pc' := 48) rfl rfl ?_
        refine jj_s (pc' := 49) rfl rfl ?_
        refine jj_g rfl rfl wM_o rfl ?_
        refine jj_s (pc' := 53) rfl rfl ?_
        refine jj_mld (i := 1) 645 rfl rfl (by decide) (by decide) ?_
        refine jj_s (pc' := 55) rfl rfl ?_
        refine jj_s (pc' := 56) rfl rfl ?_
        rw [ha.1.2.1 1 (by omega) (by omega)]
        refine jj_w3 rfl rfl rfl wM_o rfl rfl (c9_set (a := 7) (by omega) (by decide) _) ?_
        refine jj_s (pc' := 61) rfl rfl ?_
        refine jj_iret rfl rfl ⟨rfl, rfl, MLa.fin (ha.w ?_ (fun j _ h0 => uF_j _ _ _ _ h0) rfl rfl rfl)⟩
        rw [uF_same]
        exact ha.1.f8 hN hi _
      · have e : zExt N S F (nI i) r v = (-6, F) := by rw [zExt, if_pos c1, if_pos c2, ix_nI (by omega), if_neg (of_decide_eq_false c3)]
        rw [e]
        refine jj_s (pc' := 34) rfl rfl ?_
        exact jj_iret rfl rfl ⟨rfl, rfl, fin0⟩
    · have e : zExt N S F (nI i) r v = (-2, F) := by rw [zExt, if_pos c1, if_neg (by rw [c2]; decide)]
      rw [e]
      refine jj_s (pc' := 22) rfl rfl ?_
      exact jj_iret rfl rfl ⟨rfl, rfl, fin0⟩
  · have e : zExt N S F x r v = (-1, F) := by rw [zExt, if_neg (by rw [c1]; decide)]
    rw [e]
    refine jj_s (pc' := 9) rfl rfl ?_
    exact jj_iret rfl rfl ⟨rfl, rfl, fin0⟩
theorem lt4_3 {x : Int32} : 4 ≤ x ↔ 3 < x := by
  rw [Int32.lt_iff_toInt_lt, Int32.le_iff_toInt_le]
  have e3 : (3 : Int32).toInt = 3 := rfl
  have e4 : (4 : Int32).toInt = 4 := rfl
  omega
set_option maxHeartbeats 4000000 in
set_option maxRecDepth 100000 in
 theorem m_revive {G : GC} {B n m N : Nat} {S : Nat → Int32} {F : Nat → Nat → Int32} {L : Nat} {pt : Nat → Int32} {len : Nat} {C : Nat → Int32} {sv : Nat → Option (Nat × (Nat → Int32) × (Nat → Nat → Int32))} {h : HT} (hN : N ≤ 20) (hM : ML B m N S F L pt len C sv h) (x : Int32) (hT : isN N x = true → stt S N 1000 (uF (uF (uF F 5 (ix x) 0) 9 (ix x) 0) 10 (ix x) (-7)) = true) : CtJ G B M9_revive [.ref (B + m), .int x] n h 0 0 (fun r2 n2 h2 => r2 = some (.int ((zRev N S F x).1)) ∧ n2 = n ∧ ML B m N S (zRev N S F x).2 L pt len C sv h2 ∧ tk m h h2) := by
  obtain ⟨A, Wy, V, hh, ha⟩ := hM
  have hw0 := ha.1.1
  have fin0 : ML B m N S F L pt len C sv (wM B m A Wy V h) ∧ tk m h (wM B m A Wy V h) := MLa.fin ha
  unfold CtJ
  refine jj_lv (lv' := [some (.ref (B + m)), some (.int x)]) rfl ?_
  refine jj_h hh ?_
  refine jj_s (pc' := 1) rfl rfl ?_
  refine jj_s (pc' := 2) rfl rfl ?_
  refine jj_v1 rfl rfl rfl wM_o rfl rfl (c9_isItem hN hw0 _) ?_
  refine jj_zF 10 rfl rfl (fun c1 => ?_) (fun c1 => ?_)
  · obtain ⟨i, hi, rfl⟩ := isN_of hN c1
    have hT := hT c1
    rw [ix_nI (by omega)] at hT
    obtain ⟨g1, g2, g3, g4, g5, g6, g7⟩ := ha.1.2.2.1 i hi
    refine jj_s (pc' := 11) rfl rfl ?_
    refine jj_s (pc' := 12) rfl rfl ?_
    refine jj_s (pc' := 14) rfl rfl ?_
    refine jj_v2 rfl rfl rfl wM_o rfl rfl (c9_of (a := 8) (by omega) (by decide)) ?_
    rw [g3]
    refine jj_s (pc' := 18) rfl rfl ?_
    refine jj_icmp_ge 24 rfl rfl (fun (c2 : 4 ≤ F 5 i) => ?_) (fun (c2 : ¬ 4 ≤ F 5 i) => ?_)
    · have e : zRev N S F (nI i) = (stl S N 1000 (uF (uF (uF F 5 i 0) 9 i 0) 10 i (-7)) 5 i, stl S N 1000 (uF (uF (uF F 5 i 0) 9 i 0) 10 i (-7))) := by rw [zRev, if_pos c1, ix_nI (by omega), if_pos (lt4_3.mp c2)]
      rw [e]
      refine jj_s (pc' := 25) rfl rfl ?_
      refine jj_s (pc' := 26) rfl rfl ?_
      refine jj_s (pc' := 28) rfl rfl ?_
      refine jj_s (pc' := 29) rfl rfl ?_
      refine jj_w3 rfl rfl rfl wM_o rfl rfl (c9_set (a := 8) (by omega) (by decide) _) ?_
      refine jj_s (pc' := 33) rfl rfl ?_
      refine jj_s (pc' := 34) rfl rfl ?_
      refine jj_s (pc' := 35) rfl rfl ?_
      refine jj_s (pc' := 36) rfl rfl ?_
      refine jj_w3 rfl rfl rfl wM_o rfl rfl (c9_set (a := 5) (by omega) (by decide) _) ?_
      refine jj_s (pc' := 40) rfl rfl ?_
      refine jj_s (pc' := 41) rfl rfl ?_
      refine jj_s (pc' := 43) rfl rfl ?_
      refine jj_s (pc' := 45) rfl rfl ?_
      refine jj_w3 rfl rfl rfl wM_o rfl rfl (c9_set (a := 9) (by omega) (by decide) _) ?_
      refine jj_s (pc' := 49) rfl rfl ?_
      refine jj_vp0 rfl rfl rfl wM_o rfl rfl (c9_settle hN (F := uF (uF (uF F 5 i 0) 9 i 0) 10 i (-7)) (S := S) (ha.1.rv hN hi fun k => ?_) hT) (fun r n' h' q => ?_)
      · rw [uF_same, uF_same, uF_same]
        unfold upd
        by_cases q1 : k = 5 + 12 * i + 9
        · simp [q1]
        · by_cases q2 : k = 5 + 12 * i + 5
          · simp [q2]
          · by_cases q3 : k = 5 + 12 * i + 8
            · simp [q3]
            · simp [q1, q2, q3]
      · obtain ⟨rfl, rfl, A', rfl, ha'⟩ := q.ml ha (fun k _ h0 => by rw [uF_j _ _ _ _ h0, uF_j _ _ _ _ h0, uF_j _ _ _ _ h0]) rfl rfl rfl
        refine jj_s (pc' := 53) rfl rfl ?_
        refine jj_s (pc' := 54) rfl rfl ?_
        refine jj_s (pc' := 56) rfl rfl ?_
        refine jj_v2 rfl rfl rfl wM_o rfl rfl (c9_of (a := 8) (by omega) (by decide)) ?_
        exact jj_iret rfl rfl ⟨by rw [(ha'.1.2.2.1 i hi).2.2.1], rfl, MLa.fin ha'⟩
    · have e : zRev N S F (nI i) = (-4, F) := by rw [zRev, if_pos c1, ix_nI (by omega), if_neg (fun z => c2 (lt4_3.mpr z))]
      rw [e]
      refine jj_s (pc' := 23) rfl rfl ?_
      exact jj_iret rfl rfl ⟨rfl, rfl, fin0⟩
  · have e : zRev N S F x = (-1, F) := by rw [zRev, if_neg (by rw [c1]; decide)]
    rw [e]
    refine jj_s (pc' := 9) rfl rfl ?_
    exact jj_iret rfl rfl ⟨rfl, rfl, fin0⟩
/-- an item comes back -/
theorem MW.cb {N : Nat} {S : Nat → Int32} {F A : Nat → Nat → Int32} {i : Nat} (hm : MW N S F (A 0)) (hN : N ≤ 20) (hi : i < N) (p : Int32) : MW N S (cbF S F i p) ((if ofW (A 0) i 5 < ofW (A 0) i 2 then brA A i (S 1 + p) else uF A 0 (5 + 12 * i + 8) 6) 0) := by
  obtain ⟨g1, g2, g3, g4, g5, g6, g7⟩ := hm.2.2.1 i hi
  rw [g2, g1 2 (by omega)]
  unfold cbF
  by_cases c : F 9 i < F 2 i
  · rw [if_pos c, if_pos c]
    refine hm.rd hN hi fun q => ?_
    show uF _ 0 _ _ 0 q = _
    rw [uF_same, uF_same, uF_same, hm.2.1 1 (by omega) (by omega)]
    unfold upd
    by_cases q1 : q = 5 + 12 * i + 10
    · simp [q1]
    · by_cases q2 : q = 5 + 12 * i + 6
      · simp [q2]
      · by_cases q3 : q = 5 + 12 * i + 8
        · simp [q3]
        · simp [q1, q2, q3]
  · rw [if_neg c, if_neg c, uF_same]
    exact hm.st hN hi (by decide) (by decide) (by decide)
theorem cb_j {A : Nat → Nat → Int32} {i j : Nat} {x : Int32} (h0 : j ≠ 0) : (if ofW (A 0) i 5 < ofW (A 0) i 2 then brA A i x else uF A 0 (5 + 12 * i + 8) 6) j = A j := by
  split
  · unfold brA; rw [uF_j _ _ _ _ h0, uF_j _ _ _ _ h0, uF_j _ _ _ _ h0]
  · rw [uF_j _ _ _ _ h0]
/-- doubled and doubled again -/
def dbl (p : Int32) : Nat → Int32
  | 0 => p
  | k + 1 => 2 * dbl p k
theorem dbl_sh (p : Int32) {r : Nat} (h1 : 1 ≤ r) (h5 : r ≤ 5) : dbl p (r - 1) = p * ((1 : Int32) <<< ((nI r - 1) &&& 31)) := by
  have hr : r = 1 ∨ r = 2 ∨ r = 3 ∨ r = 4 ∨ r = 5 := by omega
  rcases hr with rfl | rfl | rfl | rfl | rfl
  · show p = p * 1
    rw [Int32.mul_one]
  · show 2 * p = p * 2
    rw [Int32.mul_comm]
  · show 2 * (2 * p) = p * 4
    rw [← Int32.mul_assoc, Int32.mul_comm]; rfl
  · show 2 * (2 * (2 * p)) = p * 8
    rw [← Int32.mul_assoc, ← Int32.mul_assoc, Int32.mul_comm]; rfl
  · show 2 * (2 * (2 * (2 * p))) = p * 16
    rw [← Int32.mul_assoc, ← Int32.mul_assoc, ← Int32.mul_assoc, Int32.mul_comm]; rfl
set_option maxHeartbeats 4000000 in
set_option maxRecDepth 100000 in
 theorem m_giveBack {G : GC} {B n m N : Nat} {S : Nat → Int32} {F : Nat → Nat → Int32} {L : Nat} {pt : Nat → Int32} {len : Nat} {C : Nat → Int32} {sv : Nat → Option (Nat × (Nat → Int32) × (Nat → Nat → Int32))} {h : HT} (hN : N ≤ 20) (hM : ML B m N S F L pt len C sv h) (x r p : Int32) (hr : isN N x = true → F 5 (ix x) = 2 → ∃ k, 1 ≤ k ∧ k ≤ 5 ∧ F 9 (ix x) = nI k) (hT : isN N x = true → ∀ p, stt S N 1000 (cbF S F (ix x) p) = true) : CtJ G B M9_giveBack [.ref (B + m), .int x, .int r, .int p] n h 0 0 (fun r2 n2 h2 => r2 = some (.int ((zGiv N S F x r p).1)) ∧ n2 = n ∧ ML B m N S (zGiv N S F x r p).2 L pt len C sv h2 ∧ tk m h h2) := by
  obtain ⟨A, Wy, V, hh, ha⟩ := hM
  have hw0 := ha.1.1
  have fin0 : ML B m N S F L pt len C sv (wM B m A Wy V h) ∧ tk m h (wM B m A Wy V h) := MLa.fin ha
  unfold CtJ
  refine jj_lv (lv' := [some (.ref (B + m)), some (.int x), some (.int r), some (.int p), none, none]) rfl ?_
  refine jj_h hh ?_
  refine jj_s (pc' := 1) rfl rfl ?_
  refine jj_s (pc' := 2) rfl rfl ?_
  refine jj_v1 rfl rfl rfl wM_o rfl rfl (c9_isItem hN hw0 _) ?_
  refine jj_zF 10 rfl rfl (fun c1 => ?_) (fun c1 => ?_)
  · obtain ⟨i, hi, rfl⟩ := isN_of hN c1
    obtain ⟨g1, g2, g3, g4, g5, g6, g7⟩ := ha.1.2.2.1 i hi
    have hT := hT c1
    have hr := hr c1
    rw [ix_nI (by omega)] at hr
    refine jj_s (pc' := 11) rfl rfl ?_
    refine jj_s (pc' := 12) rfl rfl ?_
    refine jj_s (pc' := 14) rfl rfl ?_
    refine jj_t3 rfl rfl rfl rfl rfl (c9_isIn p 0 10) ?_
    refine jj_zF 23 rfl rfl (fun c2 => ?_) (fun c2 => ?_)
    · refine jj_s (pc' := 24) rfl rfl ?_
      refine jj_s (pc' := 25) rfl rfl ?_
      refine jj_s (pc' := 26) rfl rfl ?_
      refine jj_v2 rfl rfl rfl wM_o rfl rfl (c9_isValid (by omega) _) ?_
      rw [g3, g4]
      refine jj_zF 35 rfl rfl (fun c3 => ?_) (fun c3 => ?_)
      · have c3 := of_decide_eq_true c3
        obtain ⟨K, k1, k5, hK⟩ := hr c3.1
        have e : zGiv N S F (nI i) r p = (stl S N 1000 (cbF S F i (dbl p (K - 1))) 5 i, stl S N 1000 (cbF S F i (dbl p (K - 1)))) := by rw [zGiv, if_pos c1, if_pos c2, ix_nI (by omega), if_pos c3, hK, ← dbl_sh p k1 k5]
        have hT := hT (dbl p (K - 1))
        rw [ix_nI (by omega)] at hT
        rw [e]
        refine jj_s (pc' := 36) rfl rfl ?_
        refine jj_s (pc' := 38) rfl rfl ?_
        refine jj_s (pc' := 39) rfl rfl ?_
        refine jj_s (pc' := 41) rfl rfl ?_
        have L1 : ∀ d k, k + 1 ≤ K → K ≤ k + d → JJ X0 G B M9_giveBack 41 [some (.ref (B + m)), some (.int (nI i)), some (.int r), some (.int p), some (.int (dbl p k)), some (.int (nI (k + 1)))] [] n (wM B m A Wy V h) 0 0 (fun r2 n2 h2 => r2 = some (.int (stl S N 1000 (cbF S F i (dbl p (K - 1))) 5 i)) ∧ n2 = n ∧ ML B m N S (stl S N 1000 (cbF S F i (dbl p (K - 1)))) L pt len C sv h2 ∧ tk m h h2) := by
          intro d
          induction d with
          | zero => intro k h1 h2; exact absurd h2 (by omega)
          | succ d ih =>
            intro k h1 h2
            refine jj_s (pc' := 43) rfl rfl ?_
            refine jj_s (pc' := 44) rfl rfl ?_
            refine jj_s (pc' := 45) rfl rfl ?_
            refine jj_s (pc' := 46) rfl rfl ?_
            refine jj_v2 rfl rfl rfl wM_o rfl rfl (c9_of (a := 5) (by omega) (by decide)) ?_
            rw [g2, hK]
            refine jj_geN 64 rfl rfl (by omega) (by omega) (fun c => ?_) (fun c => ?_)
            · rw [show K - 1 = k by omega] at hT ⊢
              refine jj_s (pc' := 65) rfl rfl ?_
              refine jj_s (pc' := 66) rfl rfl ?_
              refine jj_s (pc' := 67) rfl rfl ?_
              refine jj_g rfl rfl wM_o rfl ?_
              refine jj_s (pc' := 71) rfl rfl ?_
              refine jj_mld (i := 1) 645 rfl rfl (by decide) (by decide) ?_
              refine jj_s (pc' := 74) rfl rfl ?_
              refine jj_s (pc' := 75) rfl rfl ?_
              rw [ha.1.2.1 1 (by omega) (by omega)]
              refine jj_w2 rfl rfl rfl wM_o rfl rfl (c9_comeBack (by omega) _) ?_
              refine jj_s (pc' := 79) rfl rfl ?_
              refine jj_vp0 rfl rfl rfl wM_o rfl rfl (c9_settle hN (ha.1.cb hN hi _) hT) (fun r n' h' q => ?_)
              obtain ⟨rfl, rfl, A', rfl, ha'⟩ := q.ml ha (fun k _ h0 => cb_j h0) rfl rfl rfl
              refine jj_s (pc' := 83) rfl rfl ?_
              refine jj_s (pc' := 84) rfl rfl ?_
              refine jj_s (pc' := 86) rfl rfl ?_
              refine jj_v2 rfl rfl rfl wM_o rfl rfl (c9_of (a := 8) (by omega) (by decide)) ?_
              exact jj_iret rfl rfl ⟨by rw [(ha'.1.2.2.1 i hi).2.2.1], rfl, MLa.fin ha'⟩
            · refine jj_s (pc' := 53) rfl rfl ?_
              refine jj_s (pc' := 55) rfl rfl ?_
              refine jj_s (pc' := 56) rfl rfl ?_
              refine jj_s (pc' := 58) rfl rfl ?_
              first | refine jj_inc rfl rfl ?_ | refine jj_s (pc' := 61) rfl rfl ?_
              refine jj_s (pc' := 41) rfl rfl ?_
              exact ih (k + 1) (by omega) (by omega)
        exact L1 K 0 (by omega) (by omega)
      · have e : zGiv N S F (nI i) r p = (-6, F) := by rw [zGiv, if_pos c1, if_pos c2, ix_nI (by omega), if_neg (of_decide_eq_false c3)]
        rw [e]
        refine jj_s (pc' := 34) rfl rfl ?_
        exact jj_iret rfl rfl ⟨rfl, rfl, fin0⟩
    · have e : zGiv N S F (nI i) r p = (-2, F) := by rw [zGiv, if_pos c1, if_neg (by rw [c2]; decide)]
      rw [e]
      refine jj_s (pc' := 22) rfl rfl ?_
      exact jj_iret rfl rfl ⟨rfl, rfl, fin0⟩
  · have e : zGiv N S F x r p = (-1, F) := by rw [zGiv, if_neg (by rw [c1]; decide)]
    rw [e]
    refine jj_s (pc' := 9) rfl rfl ?_
    exact jj_iret rfl rfl ⟨rfl, rfl, fin0⟩
/-- what the ticks ask: after each all is settled -/
def tkH (N : Nat) (S : Nat → Int32) (F : Nat → Nat → Int32) (k : Nat) : Prop := stt (upd (tkK N S F k).1 1 ((tkK N S F k).1 1 + 1)) N 1000 (ptk (upd (tkK N S F k).1 1 ((tkK N S F k).1 1 + 1)) (tkK N S F k).2.1 N).1 = true ∧ stl (upd (tkK N S F k).1 1 ((tkK N S F k).1 1 + 1)) N 1000 (ptk (upd (tkK N S F k).1 1 ((tkK N S F k).1 1 + 1)) (tkK N S F k).2.1 N).1 = tck (upd (tkK N S F k).1 1 ((tkK N S F k).1 1 + 1)) N (tkK N S F k).2.1
set_option maxHeartbeats 4000000 in
set_option maxRecDepth 100000 in
 theorem m_tick {G : GC} {B n m N : Nat} {S : Nat → Int32} {F : Nat → Nat → Int32} {L : Nat} {pt : Nat → Int32} {len : Nat} {C : Nat → Int32} {sv : Nat → Option (Nat × (Nat → Int32) × (Nat → Nat → Int32))} {h : HT} (hN : N ≤ 20) (hM : ML B m N S F L pt len C sv h) (x : Int32) (hT : wth x 1 30 = true → ∀ k, k < ix x → tkH N S F k) : CtJ G B M9_tick [.ref (B + m), .int x] n h 0 0 (fun r2 n2 h2 => r2 = some (.int ((zTic N S F x).1)) ∧ n2 = n ∧ ML B m N (zTic N S F x).2.1 (zTic N S F x).2.2 L pt len C sv h2 ∧ tk m h h2) := by
  obtain ⟨A, Wy, V, hh, ha⟩ := hM
  have hw0 := ha.1.1
  have fin0 : ML B m N S F L pt len C sv (wM B m A Wy V h) ∧ tk m h (wM B m A Wy V h) := MLa.fin ha
  unfold CtJ
  refine jj_lv (lv' := [some (.ref (B + m)), some (.int x), none, none, none]) rfl ?_
  refine jj_h hh ?_
  refine jj_s (pc' := 1) rfl rfl ?_
  refine jj_s (pc' := 2) rfl rfl ?_
  refine jj_s (pc' := 4) rfl rfl ?_
  refine jj_t3 rfl rfl rfl rfl rfl (c9_isIn x 1 30) ?_
  refine jj_zF 13 rfl rfl (fun c1 => ?_) (fun c1 => ?_)
  · have c2 := of_decide_eq_true c1
    obtain ⟨t, ht, rfl⟩ := nI_of2 (x := x) (M := 30) (n := 30) rfl (fun z => absurd (Int32.lt_of_lt_of_le z (by decide : (0 : Int32) ≤ 1)) (Int32.not_lt.mpr c2.1)) c2.2
    have e : zTic N S F (nI t) = ((tkK N S F t).2.2, (tkK N S F t).1, (tkK N S F t).2.1) := by rw [zTic, if_pos c1, ix_nI (by omega)]
    have hT := hT c1
    rw [ix_nI (by omega)] at hT
    rw [e]
    refine jj_s (pc' := 14) rfl rfl ?_
    refine jj_s (pc' := 15) rfl rfl ?_
    refine jj_s (pc' := 16) rfl rfl ?_
    refine jj_s (pc' := 17) rfl rfl ?_
    have L1 : ∀ d k (A1 : Nat → Nat → Int32) (V1 : Nat → Int32) z, k ≤ t → t + 1 ≤ k + d → MLa N (tkK N S F k).1 (tkK N S F k).2.1 L pt len C sv A1 V1 → JJ X0 G B M9_tick 17 [some (.ref (B + m)), some (.int (nI t)), some (.int (tkK N S F k).2.2), some (.int (nI k)), z] [] n (wM B m A1 Wy V1 h) 0 0 (fun r2 n2 h2 => r2 = some (.int ((tkK N S F t).2.2)) ∧ n2 = n ∧ ML B m N (tkK N S F t).1 (tkK N S F t).2.1 L pt len C sv h2 ∧ tk m h h2) := by
      intro d
      induction d with
      | zero => intro k A1 V1 z h1 h2; exact absurd h2 (by omega)
      | succ d ih =>
        intro k A1 V1 z h1 h2 ha1
        refine jj_s (pc' := 18) rfl rfl ?_
        refine jj_s (pc' := 19) rfl rfl ?_
        refine jj_geN 106 rfl rfl (by omega) (by omega) (fun c => ?_) (fun c => ?_)
        · rw [show k = t by omega] at ha1 ⊢
          refine jj_s (pc' := 107) rfl rfl ?_
          exact jj_iret rfl rfl ⟨rfl, rfl, MLa.fin ha1⟩
        · obtain ⟨hT1, hT2⟩ := hT k c
          have e1 : (tkK N S F (k + 1)) = (upd (tkK N S F k).1 1 ((tkK N S F k).1 1 + 1), tck (upd (tkK N S F k).1 1 ((tkK N S F k).1 1 + 1)) N (tkK N S F k).2.1, (tkK N S F k).2.2 + nI (ptk (upd (tkK N S F k).1 1 ((tkK N S F k).1 1 + 1)) (tkK N S F k).2.1 N).2) := rfl
          have ih := fun A1 V1 z => ih (k + 1) A1 V1 z (by omega) (by omega)
          rw [e1] at ih
          have hm2 := ha1.1.sc (k := 1) (by omega) (by omega) ((tkK N S F k).1 1 + 1)
          have hS1 : A1 0 1 = (tkK N S F k).1 1 := ha1.1.2.1 1 (by omega) (by omega)
          have hj2 : ∀ j, j ≠ 0 → uF A1 0 1 ((tkK N S F k).1 1 + 1) j = A1 j := fun j h0 => uF_j _ _ _ _ h0
          refine jj_s (pc' := 23) rfl rfl ?_
          refine jj_g rfl rfl wM_o rfl ?_
          refine jj_s (pc' := 27) rfl rfl ?_
          refine jj_s (pc' := 28) rfl rfl ?_
          refine jj_mld (i := 1) 645 rfl rfl (by decide) (by decide) ?_
          rw [hS1]
          refine jj_s (pc' := 30) rfl rfl ?_
          refine jj_s (pc' := 31) rfl rfl ?_
          refine jj_mst (j := 0) (i := 1) 645 rfl rfl (by decide) (by decide) ?_
          refine jj_h (h' := wM B m (uF A1 0 1 ((tkK N S F k).1 1 + 1)) Wy V1 h) rfl ?_
          rw [← uF_same A1 0 1] at hm2
          generalize uF A1 0 1 ((tkK N S F k).1 1 + 1) = A2 at hm2 hj2 ⊢
          generalize upd (tkK N S F k).1 1 ((tkK N S F k).1 1 + 1) = S2 at hm2 hT1 hT2 ih ⊢
          generalize (tkK N S F k).2.1 = F2 at hm2 hT1 hT2 ih ⊢
          generalize (tkK N S F k).2.2 = v2 at ih ⊢
          refine jj_s (pc' := 33) rfl rfl ?_
          refine jj_s (pc' := 35) rfl rfl ?_
          have L2 : ∀ e i (A3 : Nat → Nat → Int32), i ≤ N → N + 1 ≤ i + e → MW N S2 (ptk S2 F2 i).1 (A3 0) → (∀ j, j ≠ 0 → A3 j = A1 j) → JJ X0 G B M9_tick 35 [some (.ref (B + m)), some (.int (nI t)), some (.int (v2 + nI (ptk S2 F2 i).2)), some (.int (nI k)), some (.int (nI i))] [] n (wM B m A3 Wy V1 h) 0 0 (fun r2 n2 h2 => r2 = some (.int ((tkK N S F t).2.2)) ∧ n2 = n ∧ ML B m N (tkK N S F t).1 (tkK N S F t).2.1 L pt len C sv h2 ∧ tk m h h2) := by
            intro e
            induction e with
            | zero => intro i A3 g1 g2; exact absurd g2 (by omega)
            | succ e ih2 =>
              intro i A3 g1 g2 hm3 hj3
              have hw0 := hm3.1
              refine jj_s (pc' := 37) rfl rfl ?_
              refine jj_s (pc' := 38) rfl rfl ?_
              refine jj_g rfl rfl wM_o rfl ?_
              refine jj_s (pc' := 42) rfl rfl ?_
              refine jj_m0 hw0 rfl ?_
              refine jj_geN 96 rfl rfl (by omega) (by omega) (fun ci => ?_) (fun ci => ?_)
              · have hi : i = N := by omega
                subst hi
                refine jj_s (pc' := 97) rfl rfl ?_
                refine jj_vp0 rfl rfl rfl wM_o rfl rfl (c9_settle hN hm3 hT1) (fun r n' h' q => ?_)
                obtain ⟨rfl, rfl, A', rfl, ha'⟩ := q.ml ha1 (fun k _ h0 => hj3 k h0) rfl rfl rfl
                rw [hT2] at ha'
                first | refine jj_inc rfl rfl ?_ | refine jj_s (pc' := 103) rfl rfl ?_
                refine jj_s (pc' := 17) rfl rfl ?_
                exact ih _ _ _ ha'
              · obtain ⟨r1, r2, r3, r4, r5, r6, r7⟩ := hm3.2.2.1 i ci
                refine jj_s (pc' := 47) rfl rfl ?_
                refine jj_s (pc' := 49) rfl rfl ?_
                refine jj_s (pc' := 51) rfl rfl ?_
                refine jj_v2 rfl rfl rfl wM_o rfl rfl (c9_of (a := 8) (by omega) (by decide)) ?_
                rw [r3]
                refine jj_s (pc' := 55) rfl rfl ?_
                refine jj_icmp_ne 90 rfl rfl (fun (c3 : ¬ (ptk S2 F2 i).1 5 i = 2) => ?_) (fun (c3 : (ptk S2 F2 i).1 5 i = 2) => ?_)
                · have e2 : ptk S2 F2 (i + 1) = ptk S2 F2 i := by rw [ptk, if_neg (fun z => c3 z.1)]
                  first | refine jj_inc rfl rfl ?_ | refine jj_s (pc' := 93) rfl rfl ?_
                  refine jj_s (pc' := 35) rfl rfl ?_
                  have := ih2 (i + 1) A3 (by omega) (by omega) (by rw [e2]; exact hm3) hj3
                  rw [e2] at this
                  exact this
                · refine jj_s (pc' := 59) rfl rfl ?_
                  refine jj_s (pc' := 61) rfl rfl ?_
                  refine jj_s (pc' := 63) rfl rfl ?_
                  refine jj_v2 rfl rfl rfl wM_o rfl rfl (c9_of (a := 7) (by omega) (by decide)) ?_
                  rw [r6 c3]
                  refine jj_s (pc' := 67) rfl rfl ?_
                  refine jj_g rfl rfl wM_o rfl ?_
                  refine jj_s (pc' := 71) rfl rfl ?_
                  refine jj_mld (i := 1) 645 rfl rfl (by decide) (by decide) ?_
                  rw [hm3.2.1 1 (by omega) (by omega)]
                  refine jj_icmp_gt 90 rfl rfl (fun c4 => ?_) (fun c4 => ?_)
                  · have e2 : ptk S2 F2 (i + 1) = ptk S2 F2 i := by rw [ptk, if_neg (fun z => Int32.not_le.mpr c4 z.2)]
                    first | refine jj_inc rfl rfl ?_ | refine jj_s (pc' := 93) rfl rfl ?_
                    refine jj_s (pc' := 35) rfl rfl ?_
                    have := ih2 (i + 1) A3 (by omega) (by omega) (by rw [e2]; exact hm3) hj3
                    rw [e2] at this
                    exact this
                  · have e2 : ptk S2 F2 (i + 1) = (cbF S2 (ptk S2 F2 i).1 i 0, (ptk S2 F2 i).2 + 1) := by rw [ptk, if_pos ⟨c3, Int32.not_lt.mp c4⟩]
                    refine jj_s (pc' := 76) rfl rfl ?_
                    refine jj_s (pc' := 78) rfl rfl ?_
                    refine jj_s (pc' := 79) rfl rfl ?_
                    refine jj_g rfl rfl wM_o rfl ?_
                    refine jj_s (pc' := 83) rfl rfl ?_
                    refine jj_mld (i := 1) 645 rfl rfl (by decide) (by decide) ?_
                    rw [hm3.2.1 1 (by omega) (by omega)]
                    refine jj_w2 rfl rfl rfl wM_o rfl rfl (c9_comeBack (by omega) _) ?_
                    refine jj_s (pc' := 90) rfl rfl ?_
                    first | refine jj_inc rfl rfl ?_ | refine jj_s (pc' := 93) rfl rfl ?_
                    refine jj_s (pc' := 35) rfl rfl ?_
                    have hm4 := hm3.cb hN ci 0
                    rw [Int32.add_zero] at hm4
                    have := ih2 (i + 1) _ (by omega) (by omega) (by rw [e2]; exact hm4) (fun j h0 => (cb_j h0).trans (hj3 j h0))
                    rw [e2] at this
                    refine jj_lv ?_ this
                    have e3 : v2 + nI (ptk S2 F2 i).2 + 1 = v2 + nI ((ptk S2 F2 i).2 + 1) := by rw [← nI_1, Int32.add_assoc]
                    exact congrArg (fun z => [some (Value.ref (B + m)), some (Value.int (nI t)), some (Value.int z), some (Value.int (nI k)), some (Value.int (nI (i + 1)))]) e3
          have := L2 (N + 1) 0 A2 (by omega) (by omega) hm2 hj2
          refine jj_lv ?_ this
          have e3 : v2 = v2 + nI 0 := (Int32.add_zero v2).symm
          exact congrArg (fun z => [some (Value.ref (B + m)), some (Value.int (nI t)), some (Value.int z), some (Value.int (nI k)), some (Value.int (nI 0))]) e3
    exact L1 (t + 1) 0 A V none (by omega) (by omega) ha
  · have e : zTic N S F x = (-2, S, F) := by rw [zTic, if_neg (by rw [c1]; decide)]
    rw [e]
    refine jj_s (pc' := 12) rfl rfl ?_
    exact jj_iret rfl rfl ⟨rfl, rfl, fin0⟩
