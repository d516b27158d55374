/-! append, add, text and slots of the reference -/
/-- what append leaves -/
def apP (N : Nat) (a b c d e : Int32) (w w' : Nat → Int32) : Prop := w' 0 = nI (N + 1) ∧ (∀ k, 1 ≤ k → k ≤ 4 → w' k = w k) ∧ (∀ i, i < 20 → i ≠ N → ∀ q, q < 12 → ofW w' i q = ofW w i q) ∧ (ofW w' N 0 = a ∧ ofW w' N 1 = b ∧ ofW w' N 2 = c ∧ ofW w' N 3 = d ∧ ofW w' N 4 = e ∧ ofW w' N 5 = 0 ∧ ofW w' N 8 = 0 ∧ ofW w' N 9 = -7) ∧ ∀ p i, p < 20 → i < 20 → kdW w' p i = if p = N ∨ i = N then 0 else kdW w p i
theorem apP.mw {N : Nat} {S : Nat → Int32} {F : Nat → Nat → Int32} {w w' : Nat → Int32} {a b c d e : Int32} (hm : MW N S F w) (hN : N < 20) (hB : ∀ i, i < N → bt (F 11 i) N = false ∧ bt (F 12 i) N = false) (h : apP N a b c d e w w') : MW (N + 1) S (apF F N a b c d e) w' := by
  obtain ⟨m0, m1, m2, m3⟩ := hm
  obtain ⟨h0, h1, h2, ⟨r0, r1, r2, r3, r4, r5, r8, r9⟩, h4⟩ := h
  have eN : ∀ j, j ≠ N → ∀ q, apF F N a b c d e q j = F q j := by
    intro j hj q
    unfold apF
    rw [uF_i _ _ _ _ hj, uF_i _ _ _ _ hj, uF_i _ _ _ _ hj, uF_i _ _ _ _ hj, uF_i _ _ _ _ hj, uF_i _ _ _ _ hj, uF_i _ _ _ _ hj, uF_i _ _ _ _ hj, uF_i _ _ _ _ hj, uF_i _ _ _ _ hj]
  have e0 : apF F N a b c d e 0 N = a ∧ apF F N a b c d e 1 N = b ∧ apF F N a b c d e 2 N = c ∧ apF F N a b c d e 3 N = d ∧ apF F N a b c d e 4 N = e ∧ apF F N a b c d e 5 N = 0 ∧ apF F N a b c d e 9 N = 0 ∧ apF F N a b c d e 10 N = -7 ∧ apF F N a b c d e 11 N = 0 ∧ apF F N a b c d e 12 N = 0 := by
    unfold apF
    simp [uF_at]
  obtain ⟨x0, x1, x2, x3, x4, x5, x9, x10, x11, x12⟩ := e0
  refine ⟨h0, fun k k1 k4 => (h1 k k1 k4).trans (m1 k k1 k4), fun i hi => ?_, fun p i hp hi => ?_⟩
  · by_cases ei : i = N
    · subst ei
      refine ⟨fun q hq => ?_, ?_, ?_, ?_, fun z => absurd (x5.symm.trans z) (by decide), fun z => absurd (x5.symm.trans z) (by decide), by rw [x5]; decide⟩
      · have : q = 0 ∨ q = 1 ∨ q = 2 ∨ q = 3 ∨ q = 4 := by omega
        rcases this with rfl | rfl | rfl | rfl | rfl
        · rw [r0, x0]
        · rw [r1, x1]
        · rw [r2, x2]
        · rw [r3, x3]
        · rw [r4, x4]
      · rw [r5, x9]
      · rw [r8, x5]
      · rw [r9, x10]
    · exact (m2 i (by omega)).cong (fun q hq => h2 i (by omega) ei q hq) (fun q => eN i ei q)
  · rw [h4 p i (by omega) (by omega)]
    unfold kd
    by_cases ei : i = N
    · subst ei
      rw [if_pos (Or.inr rfl), x11, x12, b_0]; rfl
    · rw [eN i ei, eN i ei]
      by_cases ep : p = N
      · subst ep
        have := hB i (by omega)
        rw [if_pos (Or.inl rfl), this.1, this.2]; rfl
      · rw [if_neg (by omega)]
        exact m3 p i (by omega) (by omega)
set_option maxHeartbeats 4000000 in
set_option maxRecDepth 100000 in
 theorem c9_append {G : GC} {B n m : Nat} {A : Nat → Nat → Int32} {Wy : Nat → Int64} {V : Nat → Int32} {h : HT} {N : Nat} (hN : N < 20) (hw0 : A 0 0 = nI N) (a b c d e : Int32) : CtJ G B M9_append [.ref (B + m), .int a, .int b, .int c, .int d, .int e] n (wM B m A Wy V h) 0 0 (fun r2 n2 h2 => r2 = some (.int (nI N)) ∧ n2 = n ∧ ∃ A', h2 = wM B m A' Wy V h ∧ apP N a b c d e (A 0) (A' 0) ∧ ∀ j, j ≠ 0 → A' j = A j) := by
  unfold CtJ
  refine jj_lv (lv' := [some (.ref (B + m)), some (.int a), some (.int b), some (.int c), some (.int d), some (.int e), none, none]) rfl ?_
  refine jj_s (pc' := 1) rfl rfl ?_
  refine jj_g rfl rfl wM_o rfl ?_
  refine jj_s (pc' := 5) rfl rfl ?_
  refine jj_m0 hw0 rfl ?_
  refine jj_s (pc' := 8) rfl rfl ?_
  refine jj_s (pc' := 9) rfl rfl ?_
  refine jj_g rfl rfl wM_o rfl ?_
  refine jj_s (pc' := 13) rfl rfl ?_
  refine jj_s (pc' := 14) rfl rfl ?_
  refine jj_m0 hw0 rfl ?_
  refine jj_s (pc' := 16) rfl rfl ?_
  refine jj_s (pc' := 17) rfl rfl ?_
  refine jj_mst (i := 0) 645 rfl rfl (by decide) (by decide) ?_
  refine jj_s (pc' := 19) rfl rfl ?_
  refine jj_s (pc' := 21) rfl rfl ?_
  refine jj_h (h' := wM B m (uF A 0 0 (nI (N + 1))) Wy V h) (by rw [← nI_1]; rfl) ?_
  have L1 : ∀ D k (A1 : Nat → Nat → Int32), k ≤ 12 → 13 ≤ k + D → A1 0 0 = nI (N + 1) → (∀ q, q ≠ 0 → (q < 5 + 12 * N ∨ 5 + 12 * N + 12 ≤ q) → A1 0 q = A 0 q) → (∀ q, q < k → ofW (A1 0) N q = 0) → (∀ j, j ≠ 0 → A1 j = A j) → JJ X0 G B M9_append 21 [some (.ref (B + m)), some (.int a), some (.int b), some (.int c), some (.int d), some (.int e), some (.int (nI N)), some (.int (nI k))] [] n (wM B m A1 Wy V h) 0 0 (fun r2 n2 h2 => r2 = some (.int (nI N)) ∧ n2 = n ∧ ∃ A', h2 = wM B m A' Wy V h ∧ apP N a b c d e (A 0) (A' 0) ∧ ∀ j, j ≠ 0 → A' j = A j) := by
    intro D
    induction D with
    | zero => intro k A1 h1 h2; exact absurd h2 (by omega)
    | succ D ih =>
      intro k A1 h1 h2 p0 p1 p2 p3
      refine jj_s (pc' := 23) rfl rfl ?_
      refine jj_s (pc' := 25) rfl rfl ?_
      refine jj_geN (b := 12) 43 rfl rfl (by omega) (by omega) (fun ck => ?_) (fun ck => ?_)
      · have hk : k = 12 := by omega
        subst hk
        refine jj_s (pc' := 44) rfl rfl ?_
        refine jj_s (pc' := 46) rfl rfl ?_
        refine jj_s (pc' := 47) rfl rfl ?_
        refine jj_s (pc' := 48) rfl rfl ?_
        refine jj_w3 rfl rfl rfl wM_o rfl rfl (c9_set (a := 0) (by omega) (by decide) _) ?_
        refine jj_s (pc' := 52) rfl rfl ?_
        refine jj_s (pc' := 54) rfl rfl ?_
        refine jj_s (pc' := 55) rfl rfl ?_
        refine jj_s (pc' := 56) rfl rfl ?_
        refine jj_w3 rfl rfl rfl wM_o rfl rfl (c9_set (a := 1) (by omega) (by decide) _) ?_
        refine jj_s (pc' := 60) rfl rfl ?_
        refine jj_s (pc' := 62) rfl rfl ?_
        refine jj_s (pc' := 63) rfl rfl ?_
        refine jj_s (pc' := 64) rfl rfl ?_
        refine jj_w3 rfl rfl rfl wM_o rfl rfl (c9_set (a := 2) (by omega) (by decide) _) ?_
        refine jj_s (pc' := 68) rfl rfl ?_
        refine jj_s (pc' := 70) rfl rfl ?_
        refine jj_s (pc' := 71) rfl rfl ?_
        refine jj_s (pc' := 73) rfl rfl ?_
        refine jj_w3 rfl rfl rfl wM_o rfl rfl (c9_set (a := 3) (by omega) (by decide) _) ?_
        refine jj_s (pc' := 77) rfl rfl ?_
        refine jj_s (pc' := 79) rfl rfl ?_
        refine jj_s (pc' := 80) rfl rfl ?_
        refine jj_s (pc' := 82) rfl rfl ?_
        refine jj_w3 rfl rfl rfl wM_o rfl rfl (c9_set (a := 4) (by omega) (by decide) _) ?_
        refine jj_s (pc' := 86) rfl rfl ?_
        refine jj_s (pc' := 88) rfl rfl ?_
        refine jj_s (pc' := 90) rfl rfl ?_
        refine jj_s (pc' := 92) rfl rfl ?_
        refine jj_w3 rfl rfl rfl wM_o rfl rfl (c9_set (a := 9) (by omega) (by decide) _) ?_
        refine jj_h (h' := wM B m (uF (uF (uF (uF (uF (uF A1 0 (5 + 12 * N + 0) a) 0 (5 + 12 * N + 1) b) 0 (5 + 12 * N + 2) c) 0 (5 + 12 * N + 3) d) 0 (5 + 12 * N + 4) e) 0 (5 + 12 * N + 9) (-7)) Wy V h) rfl ?_
        have q0 : (uF (uF (uF (uF (uF (uF A1 0 (5 + 12 * N + 0) a) 0 (5 + 12 * N + 1) b) 0 (5 + 12 * N + 2) c) 0 (5 + 12 * N + 3) d) 0 (5 + 12 * N + 4) e) 0 (5 + 12 * N + 9) (-7)) 0 0 = nI (N + 1) := by
          rw [uF_i _ _ _ _ (by omega), uF_i _ _ _ _ (by omega), uF_i _ _ _ _ (by omega), uF_i _ _ _ _ (by omega), uF_i _ _ _ _ (by omega), uF_i _ _ _ _ (by omega)]
          exact p0
        have q1 : ∀ q, q ≠ 0 → (q < 5 + 12 * N ∨ 5 + 12 * N + 12 ≤ q) → (uF (uF (uF (uF (uF (uF A1 0 (5 + 12 * N + 0) a) 0 (5 + 12 * N + 1) b) 0 (5 + 12 * N + 2) c) 0 (5 + 12 * N + 3) d) 0 (5 + 12 * N + 4) e) 0 (5 + 12 * N + 9) (-7)) 0 q = A 0 q := by
          intro q z1 z2
          rw [uF_i _ _ _ _ (by omega), uF_i _ _ _ _ (by omega), uF_i _ _ _ _ (by omega), uF_i _ _ _ _ (by omega), uF_i _ _ _ _ (by omega), uF_i _ _ _ _ (by omega)]
          exact p1 q z1 z2
        have q2 : ∀ q, q < 12 → (uF (uF (uF (uF (uF (uF A1 0 (5 + 12 * N + 0) a) 0 (5 + 12 * N + 1) b) 0 (5 + 12 * N + 2) c) 0 (5 + 12 * N + 3) d) 0 (5 + 12 * N + 4) e) 0 (5 + 12 * N + 9) (-7)) 0 (5 + 12 * N + q) = if q = 0 then a else if q = 1 then b else if q = 2 then c else if q = 3 then d else if q = 4 then e else if q = 9 then -7 else 0 := by
          intro q hq
          have := p2 q hq
          have hz : q = 0 ∨ q = 1 ∨ q = 2 ∨ q = 3 ∨ q = 4 ∨ q = 5 ∨ q = 6 ∨ q = 7 ∨ q = 8 ∨ q = 9 ∨ q = 10 ∨ q = 11 := by omega
          rcases hz with rfl | rfl | rfl | rfl | rfl | rfl | rfl | rfl | rfl | rfl | rfl | rfl <;> simp [uF_at, this]
        have q3 : ∀ j, j ≠ 0 → (uF (uF (uF (uF (uF (uF A1 0 (5 + 12 * N + 0) a) 0 (5 + 12 * N + 1) b) 0 (5 + 12 * N + 2) c) 0 (5 + 12 * N + 3) d) 0 (5 + 12 * N + 4) e) 0 (5 + 12 * N + 9) (-7)) j = A j := by
          intro j hj
          rw [uF_j _ _ _ _ hj, uF_j _ _ _ _ hj, uF_j _ _ _ _ hj, uF_j _ _ _ _ hj, uF_j _ _ _ _ hj, uF_j _ _ _ _ hj]
          exact p3 j hj
        generalize (uF (uF (uF (uF (uF (uF A1 0 (5 + 12 * N + 0) a) 0 (5 + 12 * N + 1) b) 0 (5 + 12 * N + 2) c) 0 (5 + 12 * N + 3) d) 0 (5 + 12 * N + 4) e) 0 (5 + 12 * N + 9) (-7)) = A2 at q0 q1 q2 q3 ⊢
        refine jj_s (pc' := 96) rfl rfl ?_
        refine jj_s (pc' := 98) rfl rfl ?_
        have L2 : ∀ D k (A3 : Nat → Nat → Int32), k ≤ 20 → 21 ≤ k + D → (∀ q, q < 245 → A3 0 q = A2 0 q) → (∀ p i, p < 20 → i < 20 → kdW (A3 0) p i = if (p = N ∧ i < k) ∨ (i = N ∧ p < k) then 0 else kdW (A2 0) p i) → (∀ j, j ≠ 0 → A3 j = A j) → JJ X0 G B M9_append 98 [some (.ref (B + m)), some (.int a), some (.int b), some (.int c), some (.int d), some (.int e), some (.int (nI N)), some (.int (nI k))] [] n (wM B m A3 Wy V h) 0 0 (fun r2 n2 h2 => r2 = some (.int (nI N)) ∧ n2 = n ∧ ∃ A', h2 = wM B m A' Wy V h ∧ apP N a b c d e (A 0) (A' 0) ∧ ∀ j, j ≠ 0 → A' j = A j) := by
          intro D
          induction D with
          | zero => intro k A3 h1 h2; exact absurd h2 (by omega)
          | succ D ih2 =>
            intro k A3 h1 h2 s0 s1 s2
            refine jj_s (pc' := 100) rfl rfl ?_
            refine jj_s (pc' := 102) rfl rfl ?_
            refine jj_geN (b := 20) 147 rfl rfl (by omega) (by omega) (fun cj => ?_) (fun cj => ?_)
            · have hk : k = 20 := by omega
              subst hk
              refine jj_s (pc' := 149) rfl rfl ?_
              refine jj_iret rfl rfl ⟨rfl, rfl, A3, rfl, ?_, s2⟩
              refine ⟨(s0 0 (by omega)).trans q0, fun k k1 k4 => (s0 k (by omega)).trans (q1 k (by omega) (by omega)), fun i hi hiN q hq => (s0 _ (by omega)).trans (q1 _ (by omega) (by omega)), ⟨?_, ?_, ?_, ?_, ?_, ?_, ?_, ?_⟩, fun p i hp hi => ?_⟩
              · exact (s0 _ (by omega)).trans (q2 0 (by omega))
              · exact (s0 _ (by omega)).trans (q2 1 (by omega))
              · exact (s0 _ (by omega)).trans (q2 2 (by omega))
              · exact (s0 _ (by omega)).trans (q2 3 (by omega))
              · exact (s0 _ (by omega)).trans (q2 4 (by omega))
              · exact (s0 _ (by omega)).trans (q2 5 (by omega))
              · exact (s0 _ (by omega)).trans (q2 8 (by omega))
              · exact (s0 _ (by omega)).trans (q2 9 (by omega))
              · rw [s1 p i hp hi]
                by_cases z : p = N ∨ i = N
                · rw [if_pos z, if_pos (by omega)]
                · rw [if_neg z, if_neg (by omega)]
                  exact q1 _ (by omega) (by omega)
            · refine jj_s (pc' := 106) rfl rfl ?_
              refine jj_g rfl rfl wM_o rfl ?_
              refine jj_s (pc' := 112) rfl rfl ?_
              refine jj_s (pc' := 114) rfl rfl ?_
              refine jj_s (pc' := 116) rfl rfl ?_
              refine jj_s (pc' := 117) rfl rfl ?_
              refine jj_s (pc' := 118) rfl rfl ?_
              refine jj_s (pc' := 120) rfl rfl ?_
              refine jj_s (pc' := 121) rfl rfl ?_
              refine jj_s (pc' := 122) rfl rfl ?_
              refine jj_st (by rw [ixK N k]) ?_
              refine jj_mst 645 rfl rfl (by decide) (by omega) ?_
              refine jj_s (pc' := 124) rfl rfl ?_
              refine jj_g rfl rfl wM_o rfl ?_
              refine jj_s (pc' := 130) rfl rfl ?_
              refine jj_s (pc' := 132) rfl rfl ?_
              refine jj_s (pc' := 134) rfl rfl ?_
              refine jj_s (pc' := 135) rfl rfl ?_
              refine jj_s (pc' := 136) rfl rfl ?_
              refine jj_s (pc' := 138) rfl rfl ?_
              refine jj_s (pc' := 139) rfl rfl ?_
              refine jj_s (pc' := 140) rfl rfl ?_
              refine jj_st (by rw [ixK k N]) ?_
              refine jj_mst 645 rfl rfl (by decide) (by omega) ?_
              refine jj_h (h' := wM B m (uF (uF A3 0 (245 + 20 * N + k) 0) 0 (245 + 20 * k + N) 0) Wy V h) rfl ?_
              first | refine jj_inc rfl rfl ?_ | refine jj_s (pc' := 144) rfl rfl ?_
              refine jj_s (pc' := 98) rfl rfl ?_
              refine ih2 (k + 1) _ (by omega) (by omega) (fun q hq => ?_) (fun p i hp hi => ?_) (fun j hj => ?_)
              · rw [uF_i _ _ _ _ (by omega), uF_i _ _ _ _ (by omega)]; exact s0 q hq
              · show uF _ _ _ _ 0 (245 + 20 * p + i) = _
                rw [uF_at, uF_at]
                have := s1 p i hp hi
                by_cases z : (p = N ∧ i < k + 1) ∨ (i = N ∧ p < k + 1)
                · rw [if_pos z]
                  by_cases z1 : 245 + 20 * p + i = 245 + 20 * k + N
                  · rw [if_pos ⟨rfl, z1⟩]
                  · rw [if_neg (fun y => z1 y.2)]
                    by_cases z2 : 245 + 20 * p + i = 245 + 20 * N + k
                    · rw [if_pos ⟨rfl, z2⟩]
                    · rw [if_neg (fun y => z2 y.2)]
                      rw [if_pos (by omega)] at this
                      exact this
                · rw [if_neg z, if_neg (fun y => by have := y.2; omega), if_neg (fun y => by have := y.2; omega)]
                  rw [if_neg (by omega)] at this
                  exact this
              · rw [uF_j _ _ _ _ hj, uF_j _ _ _ _ hj]; exact s2 j hj
        exact L2 21 0 A2 (by omega) (by omega) (fun q _ => rfl) (fun p i _ _ => by rw [if_neg (by omega)]) q3
      · refine jj_s (pc' := 29) rfl rfl ?_
        refine jj_s (pc' := 31) rfl rfl ?_
        refine jj_s (pc' := 33) rfl rfl ?_
        refine jj_s (pc' := 34) rfl rfl ?_
        refine jj_w3 rfl rfl rfl wM_o rfl rfl (c9_set (by omega) (by omega) _) ?_
        first | refine jj_inc rfl rfl ?_ | refine jj_s (pc' := 40) rfl rfl ?_
        refine jj_s (pc' := 21) rfl rfl ?_
        refine ih (k + 1) _ (by omega) (by omega) ?_ ?_ ?_ ?_
        · rw [uF_i _ _ _ _ (by omega)]; exact p0
        · intro q z1 z2
          rw [uF_i _ _ _ _ (by omega)]; exact p1 q z1 z2
        · intro q hq
          show uF _ _ _ _ 0 (5 + 12 * N + q) = 0
          by_cases z : q = k
          · subst z; rw [uF_s]; rfl
          · rw [uF_i _ _ _ _ (by omega)]; exact p2 q (by omega)
        · intro j hj
          rw [uF_j _ _ _ _ hj]; exact p3 j hj
  exact L1 13 0 _ (by omega) (by omega) (uF_s _ _ _ _) (fun q z1 z2 => uF_i _ _ _ _ z1 _) (fun q hq => absurd hq (by omega)) (fun j hj => uF_j _ _ _ _ hj)
set_option maxHeartbeats 4000000 in
set_option maxRecDepth 100000 in
 theorem m_add {G : GC} {B n m N : Nat} {S : Nat → Int32} {F : Nat → Nat → Int32} {L : Nat} {pt : Nat → Int32} {len : Nat} {C : Nat → Int32} {sv : Nat → Option (Nat × (Nat → Int32) × (Nat → Nat → Int32))} {h : HT} (hN : N ≤ 20) (hM : ML B m N S F L pt len C sv h) (p k t g d : Int32) (hB : ∀ i, i < N → bt (F 11 i) N = false ∧ bt (F 12 i) N = false) (hT : N < 20 → stt S (N + 1) 1000 (apF F N p k t g d) = true) (hE : N < 20 → stl S (N + 1) 1000 (apF F N p k t g d) = uF (uF (uF (apF F N p k t g d) 5 N 1) 6 N (S 1 + d)) 7 N (S 1)) : CtJ G B M9_add [.ref (B + m), .int p, .int k, .int t, .int g, .int d] n h 0 0 (fun r2 n2 h2 => r2 = some (.int ((zAdd N S F p k t g d).1)) ∧ n2 = n ∧ ML B m (zAdd N S F p k t g d).2.1 S (zAdd N S F p k t g d).2.2 L pt len C sv h2 ∧ tk m h h2) := by
  obtain ⟨A, Wy, V, hh, ha⟩ := hM
  have hw0 := ha.1.1
  have fin0 : ML B m N S F L pt len C sv (wM B m A Wy V h) ∧ tk m h (wM B m A Wy V h) := MLa.fin ha
  unfold CtJ
  refine jj_lv (lv' := [some (.ref (B + m)), some (.int p), some (.int k), some (.int t), some (.int g), some (.int d), none]) rfl ?_
  refine jj_h hh ?_
  have bad : (wth p 0 9 && wth k 1 20 && wth t 1 5 && wth g 0 3 && wth d 0 20) = false → JJ X0 G B M9_add 50 [some (.ref (B + m)), some (.int p), some (.int k), some (.int t), some (.int g), some (.int d), none] [] n (wM B m A Wy V h) 0 0 (fun r2 n2 h2 => r2 = some (.int ((zAdd N S F p k t g d).1)) ∧ n2 = n ∧ ML B m (zAdd N S F p k t g d).2.1 S (zAdd N S F p k t g d).2.2 L pt len C sv h2 ∧ tk m h h2) := by
    intro hb
    have e : zAdd N S F p k t g d = (-2, N, F) := by rw [zAdd, if_neg (by rw [hb]; decide)]
    rw [e]
    refine jj_s (pc' := 52) rfl rfl ?_
    exact jj_iret rfl rfl ⟨rfl, rfl, fin0⟩
  refine jj_s (pc' := 1) rfl rfl ?_
  refine jj_s (pc' := 2) rfl rfl ?_
  refine jj_s (pc' := 4) rfl rfl ?_
  refine jj_t3 rfl rfl rfl rfl rfl (c9_isIn p 0 9) ?_
  refine jj_zT 50 rfl rfl (fun c1 => bad (by rw [c1]; rfl)) (fun c1 => ?_)
  refine jj_s (pc' := 11) rfl rfl ?_
  refine jj_s (pc' := 12) rfl rfl ?_
  refine jj_s (pc' := 14) rfl rfl ?_
  refine jj_t3 rfl rfl rfl rfl rfl (c9_isIn k 1 20) ?_
  refine jj_zT 50 rfl rfl (fun c2 => bad (by rw [c2]; simp)) (fun c2 => ?_)
  refine jj_s (pc' := 21) rfl rfl ?_
  refine jj_s (pc' := 22) rfl rfl ?_
  refine jj_s (pc' := 23) rfl rfl ?_
  refine jj_t3 rfl rfl rfl rfl rfl (c9_isIn t 1 5) ?_
  refine jj_zT 50 rfl rfl (fun c3 => bad (by rw [c3]; simp)) (fun c3 => ?_)
  refine jj_s (pc' := 31) rfl rfl ?_
  refine jj_s (pc' := 32) rfl rfl ?_
  refine jj_s (pc' := 33) rfl rfl ?_
  refine jj_t3 rfl rfl rfl rfl rfl (c9_isIn g 0 3) ?_
  refine jj_zT 50 rfl rfl (fun c4 => bad (by rw [c4]; simp)) (fun c4 => ?_)
  refine jj_s (pc' := 41) rfl rfl ?_
  refine jj_s (pc' := 42) rfl rfl ?_
  refine jj_s (pc' := 44) rfl rfl ?_
  refine jj_t3 rfl rfl rfl rfl rfl (c9_isIn d 0 20) ?_
  refine jj_zF 53 rfl rfl (fun c5 => ?_) (fun c5 => bad (by rw [c5]; simp))
  have ok : (wth p 0 9 && wth k 1 20 && wth t 1 5 && wth g 0 3 && wth d 0 20) = true := by rw [c1, c2, c3, c4, c5]; rfl
  refine jj_s (pc' := 54) rfl rfl ?_
  refine jj_g rfl rfl wM_o rfl ?_
  refine jj_s (pc' := 58) rfl rfl ?_
  refine jj_m0 hw0 rfl ?_
  refine jj_s (pc' := 61) rfl rfl ?_
  refine jj_icmp_ne 67 rfl rfl (fun c6 => ?_) (fun c6 => ?_)
  · have hlt : N < 20 := by
      rcases Nat.lt_or_ge N 20 with z | z
      · exact z
      · exact absurd (by rw [show N = 20 by omega]; rfl) c6
    have e : zAdd N S F p k t g d = (nI N, N + 1, uF (uF (uF (apF F N p k t g d) 5 N 1) 6 N (S 1 + d)) 7 N (S 1)) := by rw [zAdd, if_pos ok, if_neg (by omega)]
    rw [e, ← hE hlt]
    refine jj_s (pc' := 68) rfl rfl ?_
    refine jj_s (pc' := 69) rfl rfl ?_
    refine jj_s (pc' := 70) rfl rfl ?_
    refine jj_s (pc' := 71) rfl rfl ?_
    refine jj_s (pc' := 73) rfl rfl ?_
    refine jj_s (pc' := 75) rfl rfl ?_
    refine jj_vp5 rfl rfl rfl wM_o rfl rfl (c9_append hlt hw0 _ _ _ _ _) (fun r n' h' q => ?_)
    obtain ⟨rfl, rfl, A', rfl, hap, hj⟩ := q
    refine jj_s (pc' := 80) rfl rfl ?_
    refine jj_s (pc' := 81) rfl rfl ?_
    refine jj_vp0 rfl rfl rfl wM_o rfl rfl (c9_settle (by omega) (apP.mw ha.1 hlt hB hap) (hT hlt)) (fun r n' h' q => ?_)
    obtain ⟨rfl, rfl, A2, rfl, ha'⟩ := q.ml ha (fun k _ h0 => hj k h0) rfl rfl rfl
    refine jj_s (pc' := 86) rfl rfl ?_
    exact jj_iret rfl rfl ⟨rfl, rfl, MLa.fin ha'⟩
  · have hlt : N = 20 := (nI_eq (a := N) (b := 20) (by omega) (by omega)).mp c6
    have e : zAdd N S F p k t g d = (-3, N, F) := by rw [zAdd, if_pos ok, if_pos hlt]
    rw [e]
    refine jj_s (pc' := 66) rfl rfl ?_
    exact jj_iret rfl rfl ⟨rfl, rfl, fin0⟩
