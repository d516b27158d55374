/-! measure and layAhead of the reference -/
theorem uF_id (A : Nat → Nat → Int32) (j i : Nat) : uF A j i (A j i) = A := by
  funext a k
  rw [uF_at]
  by_cases h : a = j ∧ k = i
  · rw [if_pos h, h.1, h.2]
  · rw [if_neg h]
def mxI (P : Nat → Bool) (g : Nat → Int32) : Nat → Int32
  | 0 => 0
  | k + 1 => if P k = true ∧ mxI P g k < g k then g k else mxI P g k
theorem mxI_N {P : Nat → Bool} {g : Nat → Int32} {x : Nat → Nat} {n b : Nat} (hb : b < 2 ^ 31) (h : ∀ k, k < n → P k = true → g k = nI (x k) ∧ x k ≤ b) : mxI P g n = nI (mxN P x n) := by
  induction n with
  | zero => rfl
  | succ n ih =>
    have e := ih (fun k hk => h k (by omega))
    have le : mxN P x n ≤ b := mxN_le (fun k hk hp => (h k (by omega) hp).2)
    unfold mxI mxN
    rw [e]
    by_cases hp : P n = true
    · obtain ⟨h1, h2⟩ := h n (by omega) hp
      rw [if_pos hp, h1]
      by_cases c : mxN P x n < x n
      · rw [if_pos ⟨hp, (nI_ltI (by omega) (by omega)).mpr c⟩, Nat.max_eq_right (by omega)]
      · rw [if_neg (fun z => c ((nI_ltI (by omega) (by omega)).mp z.2)), Nat.max_eq_left (by omega)]
    · rw [if_neg (fun z => hp z.1), if_neg hp]
theorem MW.own {N : Nat} {S : Nat → Int32} {F : Nat → Nat → Int32} {w : Nat → Int32} (hm : MW N S F w) {i : Nat} (hi : i < N) : (if 3 ≤ ofW w i 8 then 0 else ofW w i 1) = wkL F i := by
  obtain ⟨g1, g2, g3, g4, g5, g6, g7⟩ := hm.2.2.1 i hi
  rw [g3, g1 1 (by omega)]
  rfl
theorem kd_e (F : Nat → Nat → Int32) (p i : Nat) : ¬ kd F p i - 1 < 0 ↔ edg F p i = true := by
  rw [kd_n]
  simp
/-- what measure leaves -/
def msQ (B m n N : Nat) (F : Nat → Nat → Int32) (A : Nat → Nat → Int32) (Wy : Nat → Int64) (V : Nat → Int32) (h : HT) : Option Value → Nat → HT → Prop := fun r2 n2 h2 => r2 = none ∧ n2 = n ∧ ∃ A', h2 = wM B m A' Wy V h ∧ (∀ j, j ≠ 5 → j ≠ 6 → A' j = A j) ∧ ∀ i, i < N → A' 5 i = nI (hgN F N i) ∧ A' 6 i = nI (ldN F N i + wkN F i)
set_option maxHeartbeats 4000000 in
set_option maxRecDepth 100000 in
 theorem c9_measure {G : GC} {B n m : Nat} {A : Nat → Nat → Int32} {Wy : Nat → Int64} {V : Nat → Int32} {h : HT} {N : Nat} {S : Nat → Int32} {F : Nat → Nat → Int32} {rk : Nat → Nat} (hN : N ≤ 20) (hm : MW N S F (A 0)) (hr : Up (edg F) N rk) (hk : ∀ i, i < N → rk i < N) (hw : Wk F N) : CtJ G B M9_measure [.ref (B + m)] n (wM B m A Wy V h) 0 0 (msQ B m n N F A Wy V h) := by
  unfold CtJ
  refine jj_lv (lv' := [some (.ref (B + m)), none, none, none, none, none]) rfl ?_
  refine jj_s (pc' := 1) rfl rfl ?_
  refine jj_s (pc' := 2) rfl rfl ?_
  have L2 : ∀ d r (A1 : Nat → Nat → Int32) z2 z3 z4 z5, r ≤ N + 1 → N + 2 ≤ r + d → (∀ j, j ≠ 5 → j ≠ 6 → A1 j = A j) → (∀ i, i < N → (N ≤ rk i + r → A1 5 i = nI (hgN F N i)) ∧ (rk i < r → A1 6 i = nI (ldN F N i + wkN F i))) → JJ X0 G B M9_measure 30 [some (.ref (B + m)), some (.int (nI r)), z2, z3, z4, z5] [] n (wM B m A1 Wy V h) 0 0 (msQ B m n N F A Wy V h) := by
    intro d
    induction d with
    | zero => intro r A1 z2 z3 z4 z5 h1 h2; exact absurd h2 (by omega)
    | succ d ih =>
      intro r A1 z2 z3 z4 z5 h1 h2 hA hC
      have hA0 : A1 0 = A 0 := hA 0 (by decide) (by decide)
      have hw0 : A1 0 0 = nI N := by rw [hA0]; exact hm.1
      refine jj_s (pc' := 31) rfl rfl ?_
      refine jj_s (pc' := 32) rfl rfl ?_
      refine jj_g rfl rfl wM_o rfl ?_
      refine jj_s (pc' := 36) rfl rfl ?_
      refine jj_m0 hw0 rfl ?_
      refine jj_icmp_gt 185 rfl rfl (fun c => ?_) (fun c => ?_)
      · have c := (nI_ltI (a := N) (b := r) (by omega) (by omega)).mp c
        refine jj_vret rfl rfl ⟨rfl, rfl, A1, rfl, hA, fun i hi => ?_⟩
        have := hk i hi
        exact ⟨(hC i hi).1 (by omega), (hC i hi).2 (by omega)⟩
      · have c : r ≤ N := by
          rcases Nat.lt_or_ge N r with q | q
          · exact absurd ((nI_ltI (a := N) (b := r) (by omega) (by omega)).mpr q) c
          · exact q
        refine jj_s (pc' := 41) rfl rfl ?_
        refine jj_s (pc' := 42) rfl rfl ?_
        have L3 : ∀ e t (A2 : Nat → Nat → Int32) z3 z4 z5, t ≤ N → N + 1 ≤ t + e → (∀ j, j ≠ 5 → j ≠ 6 → A2 j = A j) → (∀ i, i < N → ((N ≤ rk i + r ∨ (i < t ∧ N ≤ rk i + (r + 1))) → A2 5 i = nI (hgN F N i)) ∧ ((rk i < r ∨ (i < t ∧ rk i < r + 1)) → A2 6 i = nI (ldN F N i + wkN F i))) → JJ X0 G B M9_measure 42 [some (.ref (B + m)), some (.int (nI r)), some (.int (nI t)), z3, z4, z5] [] n (wM B m A2 Wy V h) 0 0 (msQ B m n N F A Wy V h) := by
          intro e
          induction e with
          | zero => intro t A2 z3 z4 z5 g1 g2; exact absurd g2 (by omega)
          | succ e ih3 =>
            intro t A2 z3 z4 z5 g1 g2 hB hD
            have hB0 : A2 0 = A 0 := hB 0 (by decide) (by decide)
            have hw0 : A2 0 0 = nI N := by rw [hB0]; exact hm.1
            refine jj_s (pc' := 43) rfl rfl ?_
            refine jj_s (pc' := 44) rfl rfl ?_
            refine jj_g rfl rfl wM_o rfl ?_
            refine jj_s (pc' := 48) rfl rfl ?_
            refine jj_m0 hw0 rfl ?_
            refine jj_geN 179 rfl rfl (by omega) (by omega) (fun ct => ?_) (fun ct => ?_)
            · have htN : t = N := by omega
              subst htN
              first | refine jj_inc rfl rfl ?_ | refine jj_s (pc' := 182) rfl rfl ?_
              refine jj_s (pc' := 30) rfl rfl ?_
              refine ih (r + 1) A2 _ _ _ _ (by omega) (by omega) hB (fun i hi => ⟨fun q => (hD i hi).1 (Or.inr ⟨hi, q⟩), fun q => (hD i hi).2 (Or.inr ⟨hi, q⟩)⟩)
            · refine jj_s (pc' := 53) rfl rfl ?_
              refine jj_s (pc' := 54) rfl rfl ?_
              refine jj_s (pc' := 55) rfl rfl ?_
              refine jj_s (pc' := 57) rfl rfl ?_
              refine jj_s (pc' := 58) rfl rfl ?_
              refine jj_s (pc' := 60) rfl rfl ?_
              have L4 : ∀ f k, k ≤ N → N + 1 ≤ k + f → JJ X0 G B M9_measure 60 [some (.ref (B + m)), some (.int (nI r)), some (.int (nI t)), some (.int (mxI (fun q => edg F t q) (A2 5) k)), some (.int (mxI (fun q => edg F q t) (A2 6) k)), some (.int (nI k))] [] n (wM B m A2 Wy V h) 0 0 (msQ B m n N F A Wy V h) := by
                intro f
                induction f with
                | zero => intro k g3 g4; exact absurd g4 (by omega)
                | succ f ih4 =>
                  intro k g3 g4
                  refine jj_s (pc' := 62) rfl rfl ?_
                  refine jj_s (pc' := 63) rfl rfl ?_
                  refine jj_g rfl rfl wM_o rfl ?_
                  refine jj_s (pc' := 67) rfl rfl ?_
                  refine jj_m0 hw0 rfl ?_
                  refine jj_geN 146 rfl rfl (by omega) (by omega) (fun ck => ?_) (fun ck => ?_)
                  · have hkN : k = N := by omega
                    subst hkN
                    refine jj_s (pc' := 147) rfl rfl ?_
                    refine jj_g rfl rfl wM_o rfl ?_
                    refine jj_s (pc' := 151) rfl rfl ?_
                    refine jj_s (pc' := 152) rfl rfl ?_
                    refine jj_s (pc' := 153) rfl rfl ?_
                    refine jj_s (pc' := 154) rfl rfl ?_
                    refine jj_v1 rfl rfl rfl wM_o rfl rfl (c9_ownWork (by omega)) ?_
                    rw [hB0, hm.own ct]
                    refine jj_s (pc' := 158) rfl rfl ?_
                    refine jj_mst (j := 5) 20 rfl rfl (by decide) (by omega) ?_
                    refine jj_s (pc' := 160) rfl rfl ?_
                    refine jj_g rfl rfl wM_o rfl ?_
                    refine jj_s (pc' := 164) rfl rfl ?_
                    refine jj_s (pc' := 166) rfl rfl ?_
                    refine jj_s (pc' := 167) rfl rfl ?_
                    refine jj_s (pc' := 168) rfl rfl ?_
                    refine jj_v1 rfl rfl rfl wM_o rfl rfl (c9_ownWork (by omega)) ?_
                    rw [show (uF A2 5 t (mxI (fun q => edg F t q) (A2 5) k + wkL F t)) 0 = A2 0 from uF_j _ _ _ _ (by decide), hB0, hm.own ct]
                    refine jj_s (pc' := 172) rfl rfl ?_
                    refine jj_mst (j := 6) 20 rfl rfl (by decide) (by omega) ?_
                    first | refine jj_inc rfl rfl ?_ | refine jj_s (pc' := 176) rfl rfl ?_
                    refine jj_s (pc' := 42) rfl rfl ?_
                    refine ih3 (t + 1) _ _ _ _ (by omega) (by omega) (fun j h5 h6 => by rw [uF_j _ _ _ _ h6, uF_j _ _ _ _ h5]; exact hB j h5 h6) (fun i hi => ⟨fun q => ?_, fun q => ?_⟩)
                    · rw [uF_j _ _ _ _ (by decide)]
                      by_cases ei : i = t
                      · subst ei
                        rw [uF_s, mxI_N (x := hgN F k) (b := 400) (by omega) (fun q' hq' he => ⟨(hD q' hq').1 (Or.inl (by have := hr i q' hi hq' he; omega)), hgN_le hN hw hq'⟩), (hw i hi).1, nI_add, Nat.add_comm, ← hgN_eq hr hk hi]
                      · rw [uF_i _ _ _ _ ei]; exact (hD i hi).1 (by omega)
                    · by_cases ei : i = t
                      · subst ei
                        rw [uF_s, mxI_N (x := fun q => ldN F k q + wkN F q) (b := 420) (by omega) (fun q' hq' he => ⟨(hD q' hq').2 (Or.inl (by have := hr q' i hq' hi he; omega)), by have := ldN_le hN hw hq'; have := (hw q' hq').2; omega⟩), (hw i hi).1, nI_add, ← ldN_eq hr hk hi]
                      · rw [uF_i _ _ _ _ ei, uF_j _ _ _ _ (by decide)]; exact (hD i hi).2 (by omega)
                  · have P2 : ∀ u, u = mxI (fun q => edg F t q) (A2 5) (k + 1) → JJ X0 G B M9_measure 104 [some (.ref (B + m)), some (.int (nI r)), some (.int (nI t)), some (.int u), some (.int (mxI (fun q => edg F q t) (A2 6) k)), some (.int (nI k))] [] n (wM B m A2 Wy V h) 0 0 (msQ B m n N F A Wy V h) := by
                      intro u hu
                      subst hu
                      refine jj_s (pc' := 105) rfl rfl ?_
                      refine jj_s (pc' := 107) rfl rfl ?_
                      refine jj_s (pc' := 108) rfl rfl ?_
                      refine jj_v2 rfl rfl rfl wM_o rfl rfl (c9_kindOf (by omega) (by omega)) ?_
                      rw [hB0, hm.2.2.2 k t ck ct]
                      refine jj_if_lt 136 rfl rfl (fun c2 => ?_) (fun c2 => ?_)
                      · have c2 : ¬ edg F k t = true := fun z => (kd_e F k t).mpr z c2
                        have e2 : mxI (fun q => edg F q t) (A2 6) (k + 1) = mxI (fun q => edg F q t) (A2 6) k := by rw [mxI, if_neg (fun z => c2 z.1)]
                        refine jj_s (pc' := 138) rfl rfl ?_
                        refine jj_s (pc' := 140) rfl rfl ?_
                        first | refine jj_inc rfl rfl ?_ | refine jj_s (pc' := 143) rfl rfl ?_
                        refine jj_s (pc' := 60) rfl rfl ?_
                        have := ih4 (k + 1) (by omega) (by omega)
                        rw [e2] at this
                        exact this
                      · have c2 := (kd_e F k t).mp c2
                        refine jj_s (pc' := 115) rfl rfl ?_
                        refine jj_g rfl rfl wM_o rfl ?_
                        refine jj_s (pc' := 120) rfl rfl ?_
                        refine jj_mld 20 rfl rfl (by decide) (by first | assumption | omega) ?_
                        refine jj_s (pc' := 123) rfl rfl ?_
                        refine jj_icmp_le 136 rfl rfl (fun c3 => ?_) (fun c3 => ?_)
                        · have e2 : mxI (fun q => edg F q t) (A2 6) (k + 1) = mxI (fun q => edg F q t) (A2 6) k := by rw [mxI, if_neg (fun z => Int32.not_lt.mpr c3 z.2)]
                          refine jj_s (pc' := 138) rfl rfl ?_
                          refine jj_s (pc' := 140) rfl rfl ?_
                          first | refine jj_inc rfl rfl ?_ | refine jj_s (pc' := 143) rfl rfl ?_
                          refine jj_s (pc' := 60) rfl rfl ?_
                          have := ih4 (k + 1) (by omega) (by omega)
                          rw [e2] at this
                          exact this
                        · have e2 : mxI (fun q => edg F q t) (A2 6) (k + 1) = A2 6 k := by rw [mxI, if_pos ⟨c2, Int32.not_le.mp c3⟩]
                          refine jj_s (pc' := 127) rfl rfl ?_
                          refine jj_g rfl rfl wM_o rfl ?_
                          refine jj_s (pc' := 132) rfl rfl ?_
                          refine jj_mld 20 rfl rfl (by decide) (by first | assumption | omega) ?_
                          refine jj_s (pc' := 138) rfl rfl ?_
                          refine jj_s (pc' := 140) rfl rfl ?_
                          first | refine jj_inc rfl rfl ?_ | refine jj_s (pc' := 143) rfl rfl ?_
                          refine jj_s (pc' := 60) rfl rfl ?_
                          have := ih4 (k + 1) (by omega) (by omega)
                          rw [e2] at this
                          exact this
                    refine jj_s (pc' := 72) rfl rfl ?_
                    refine jj_s (pc' := 73) rfl rfl ?_
                    refine jj_s (pc' := 75) rfl rfl ?_
                    refine jj_v2 rfl rfl rfl wM_o rfl rfl (c9_kindOf (by omega) (by omega)) ?_
                    rw [hB0, hm.2.2.2 t k ct ck]
                    refine jj_if_lt 102 rfl rfl (fun c2 => ?_) (fun c2 => ?_)
                    · have c2 : ¬ edg F t k = true := fun z => (kd_e F t k).mpr z c2
                      refine jj_s (pc' := 103) rfl rfl ?_
                      refine jj_s (pc' := 104) rfl rfl ?_
                      exact P2 _ (by rw [mxI, if_neg (fun z => c2 z.1)])
                    · have c2 := (kd_e F t k).mp c2
                      refine jj_s (pc' := 82) rfl rfl ?_
                      refine jj_g rfl rfl wM_o rfl ?_
                      refine jj_s (pc' := 87) rfl rfl ?_
                      refine jj_mld 20 rfl rfl (by decide) (by first | assumption | omega) ?_
                      refine jj_s (pc' := 89) rfl rfl ?_
                      refine jj_icmp_le 102 rfl rfl (fun c3 => ?_) (fun c3 => ?_)
                      · refine jj_s (pc' := 103) rfl rfl ?_
                        refine jj_s (pc' := 104) rfl rfl ?_
                        exact P2 _ (by rw [mxI, if_neg (fun z => Int32.not_lt.mpr c3 z.2)])
                      · refine jj_s (pc' := 93) rfl rfl ?_
                        refine jj_g rfl rfl wM_o rfl ?_
                        refine jj_s (pc' := 98) rfl rfl ?_
                        refine jj_mld 20 rfl rfl (by decide) (by first | assumption | omega) ?_
                        refine jj_s (pc' := 103) rfl rfl ?_
                        refine jj_s (pc' := 104) rfl rfl ?_
                        exact P2 _ (by rw [mxI, if_pos ⟨c2, Int32.not_le.mp c3⟩])
              exact L4 (N + 1) 0 (by omega) (by omega)
        exact L3 (N + 1) 0 A1 _ _ _ (by omega) (by omega) hA (fun i hi => ⟨fun q => (hC i hi).1 (by omega), fun q => (hC i hi).2 (by omega)⟩)
  have L1 : ∀ d k (A1 : Nat → Nat → Int32), k ≤ 20 → 21 ≤ k + d → (∀ j, j ≠ 5 → j ≠ 6 → A1 j = A j) → JJ X0 G B M9_measure 2 [some (.ref (B + m)), some (.int (nI k)), none, none, none, none] [] n (wM B m A1 Wy V h) 0 0 (msQ B m n N F A Wy V h) := by
    intro d
    induction d with
    | zero => intro k A1 h1 h2; exact absurd h2 (by omega)
    | succ d ih =>
      intro k A1 h1 h2 hA
      refine jj_s (pc' := 3) rfl rfl ?_
      refine jj_s (pc' := 5) rfl rfl ?_
      refine jj_geN (b := 20) 28 rfl rfl (by omega) (by omega) (fun c => ?_) (fun c => ?_)
      · refine jj_s (pc' := 29) rfl rfl ?_
        refine jj_s (pc' := 30) rfl rfl ?_
        exact L2 (N + 2) 0 A1 _ _ _ _ (by omega) (by omega) hA (fun i hi => ⟨fun q => by have := hk i hi; omega, fun q => by omega⟩)
      · refine jj_s (pc' := 9) rfl rfl ?_
        refine jj_g rfl rfl wM_o rfl ?_
        refine jj_s (pc' := 13) rfl rfl ?_
        refine jj_s (pc' := 14) rfl rfl ?_
        refine jj_mst 20 rfl rfl (by decide) (by first | assumption | omega) ?_
        refine jj_s (pc' := 16) rfl rfl ?_
        refine jj_g rfl rfl wM_o rfl ?_
        refine jj_s (pc' := 20) rfl rfl ?_
        refine jj_s (pc' := 21) rfl rfl ?_
        refine jj_mst 20 rfl rfl (by decide) (by first | assumption | omega) ?_
        first | refine jj_inc rfl rfl ?_ | refine jj_s (pc' := 25) rfl rfl ?_
        refine jj_s (pc' := 2) rfl rfl ?_
        exact ih (k + 1) _ (by omega) (by omega) (fun j h5 h6 => by rw [uF_j _ _ _ _ h6, uF_j _ _ _ _ h5]; exact hA j h5 h6)
  exact L1 21 0 A (by omega) (by omega) (fun j _ _ => rfl)
/-- what layAhead leaves -/
def laQ (B m n N : Nat) (F : Nat → Nat → Int32) (A : Nat → Nat → Int32) (Wy : Nat → Int64) (V : Nat → Int32) (h : HT) : Option Value → Nat → HT → Prop := fun r2 n2 h2 => r2 = none ∧ n2 = n ∧ ∃ A', h2 = wM B m A' Wy V h ∧ (∀ j, j ≠ 7 → A' j = A j) ∧ ∀ i, i < N → A' 7 i = bfN F N i
set_option maxHeartbeats 4000000 in
set_option maxRecDepth 100000 in
 theorem c9_layAhead {G : GC} {B n m : Nat} {A : Nat → Nat → Int32} {Wy : Nat → Int64} {V : Nat → Int32} {h : HT} {N : Nat} {S : Nat → Int32} {F : Nat → Nat → Int32} {rk : Nat → Nat} (hN : N ≤ 20) (hm : MW N S F (A 0)) (hr : Up (edg F) N rk) (hk : ∀ i, i < N → rk i < N) (hB : ∀ i, i < N → ∀ p, bt (prd F i) p = true → p < N) : CtJ G B M9_layAhead [.ref (B + m)] n (wM B m A Wy V h) 0 0 (laQ B m n N F A Wy V h) := by
  have hb := bfN_Bf hB
  unfold CtJ
  refine jj_lv (lv' := [some (.ref (B + m)), none, none, none]) rfl ?_
  refine jj_s (pc' := 1) rfl rfl ?_
  refine jj_s (pc' := 2) rfl rfl ?_
  have L2 : ∀ d r (A1 : Nat → Nat → Int32) z2 z3, r ≤ N → N + 1 ≤ r + d → (∀ j, j ≠ 7 → A1 j = A j) → (∀ i, i < N → ∀ p, bt (A1 7 i) p = true → bt (bfN F N i) p = true) → (∀ i, i < N → rk i < r → ∀ p, bt (bfN F N i) p = true → bt (A1 7 i) p = true) → JJ X0 G B M9_layAhead 23 [some (.ref (B + m)), some (.int (nI r)), z2, z3] [] n (wM B m A1 Wy V h) 0 0 (laQ B m n N F A Wy V h) := by
    intro d
    induction d with
    | zero => intro r A1 z2 z3 h1 h2; exact absurd h2 (by omega)
    | succ d ih =>
      intro r A1 z2 z3 h1 h2 hA hS hC
      have hw0 : A1 0 0 = nI N := by rw [hA 0 (by decide)]; exact hm.1
      refine jj_s (pc' := 24) rfl rfl ?_
      refine jj_s (pc' := 25) rfl rfl ?_
      refine jj_g rfl rfl wM_o rfl ?_
      refine jj_s (pc' := 29) rfl rfl ?_
      refine jj_m0 hw0 rfl ?_
      refine jj_geN 107 rfl rfl (by omega) (by omega) (fun c => ?_) (fun c => ?_)
      · refine jj_vret rfl rfl ⟨rfl, rfl, A1, rfl, hA, fun i hi => b_ext fun p _ => ?_⟩
        have h3 := hS i hi p
        have h4 := hC i hi (by have := hk i hi; omega) p
        cases h5 : bt (A1 7 i) p <;> cases h6 : bt (bfN F N i) p <;> simp_all
      · refine jj_s (pc' := 34) rfl rfl ?_
        refine jj_s (pc' := 35) rfl rfl ?_
        have L3 : ∀ e a (A2 : Nat → Nat → Int32) z3, a ≤ N → N + 1 ≤ a + e → (∀ j, j ≠ 7 → A2 j = A j) → (∀ i, i < N → ∀ p, bt (A2 7 i) p = true → bt (bfN F N i) p = true) → (∀ i, i < N → rk i < r → ∀ p, bt (bfN F N i) p = true → bt (A2 7 i) p = true) → (∀ i, i < N → rk i < r + 1 → ∀ q, q < a → edg F q i = true → ∀ p, (q = p ∨ bt (bfN F N q) p = true) → bt (A2 7 i) p = true) → JJ X0 G B M9_layAhead 35 [some (.ref (B + m)), some (.int (nI r)), some (.int (nI a)), z3] [] n (wM B m A2 Wy V h) 0 0 (laQ B m n N F A Wy V h) := by
          intro e
          induction e with
          | zero => intro a A2 z3 g1 g2; exact absurd g2 (by omega)
          | succ e ih3 =>
            intro a A2 z3 g1 g2 hA2 hS2 hC2 hD2
            have hw0 : A2 0 0 = nI N := by rw [hA2 0 (by decide)]; exact hm.1
            refine jj_s (pc' := 36) rfl rfl ?_
            refine jj_s (pc' := 37) rfl rfl ?_
            refine jj_g rfl rfl wM_o rfl ?_
            refine jj_s (pc' := 41) rfl rfl ?_
            refine jj_m0 hw0 rfl ?_
            refine jj_geN 101 rfl rfl (by omega) (by omega) (fun ca => ?_) (fun ca => ?_)
            · have haN : a = N := by omega
              subst haN
              first | refine jj_inc rfl rfl ?_ | refine jj_s (pc' := 104) rfl rfl ?_
              refine jj_s (pc' := 23) rfl rfl ?_
              refine ih (r + 1) A2 _ _ (by omega) (by omega) hA2 hS2 (fun i hi hri p hp => ?_)
              have hp2 : bt (bfN F a i) p = anyN (fun q => edg F q i && (decide (q = p) || bt (bfN F a q) p)) a := hb i hi p
              rw [hp2] at hp
              obtain ⟨q, q1, q2⟩ := (anyN_iff _ _).mp hp
              have q2 : (edg F q i && (decide (q = p) || bt (bfN F a q) p)) = true := q2
              rw [Bool.and_eq_true, Bool.or_eq_true, decide_eq_true_eq] at q2
              exact hD2 i hi hri q q1 q2.1 p q2.2
            · refine jj_s (pc' := 46) rfl rfl ?_
              refine jj_s (pc' := 47) rfl rfl ?_
              have L4 : ∀ f b (A3 : Nat → Nat → Int32), b ≤ N → N + 1 ≤ b + f → (∀ j, j ≠ 7 → A3 j = A j) → (∀ i, i < N → ∀ p, bt (A3 7 i) p = true → bt (bfN F N i) p = true) → (∀ i, i < N → rk i < r → ∀ p, bt (bfN F N i) p = true → bt (A3 7 i) p = true) → (∀ i, i < N → rk i < r + 1 → ∀ q, (q < a ∨ (q = a ∧ i < b)) → edg F q i = true → ∀ p, (q = p ∨ bt (bfN F N q) p = true) → bt (A3 7 i) p = true) → JJ X0 G B M9_layAhead 47 [some (.ref (B + m)), some (.int (nI r)), some (.int (nI a)), some (.int (nI b))] [] n (wM B m A3 Wy V h) 0 0 (laQ B m n N F A Wy V h) := by
                intro f
                induction f with
                | zero => intro b A3 g3 g4; exact absurd g4 (by omega)
                | succ f ih4 =>
                  intro b A3 g3 g4 hA3 hS3 hC3 hD3
                  have hA30 : A3 0 = A 0 := hA3 0 (by decide)
                  have hw0 : A3 0 0 = nI N := by rw [hA30]; exact hm.1
                  refine jj_s (pc' := 48) rfl rfl ?_
                  refine jj_s (pc' := 49) rfl rfl ?_
                  refine jj_g rfl rfl wM_o rfl ?_
                  refine jj_s (pc' := 53) rfl rfl ?_
                  refine jj_m0 hw0 rfl ?_
                  refine jj_geN 95 rfl rfl (by omega) (by omega) (fun cb => ?_) (fun cb => ?_)
                  · first | refine jj_inc rfl rfl ?_ | refine jj_s (pc' := 98) rfl rfl ?_
                    refine jj_s (pc' := 35) rfl rfl ?_
                    refine ih3 (a + 1) A3 _ (by omega) (by omega) hA3 hS3 hC3 (fun i hi hri q hq => hD3 i hi hri q (by omega))
                  · refine jj_s (pc' := 58) rfl rfl ?_
                    refine jj_g rfl rfl wM_o rfl ?_
                    refine jj_s (pc' := 62) rfl rfl ?_
                    refine jj_s (pc' := 63) rfl rfl ?_
                    refine jj_mld 20 rfl rfl (by decide) (by first | assumption | omega) ?_
                    refine jj_s (pc' := 65) rfl rfl ?_
                    refine jj_s (pc' := 66) rfl rfl ?_
                    refine jj_s (pc' := 67) rfl rfl ?_
                    refine jj_v2 rfl rfl rfl wM_o rfl rfl (c9_kindOf (by omega) (by omega)) ?_
                    rw [hA30, hm.2.2.2 a b ca cb]
                    refine jj_if_lt 86 rfl rfl (fun c2 => ?_) (fun c2 => ?_)
                    · have c2 : ¬ edg F a b = true := fun z => (kd_e F a b).mpr z c2
                      refine jj_s (pc' := 87) rfl rfl ?_
                      refine jj_s (pc' := 88) rfl rfl ?_
                      refine jj_mst (j := 7) 20 rfl rfl (by decide) (by omega) ?_
                      first | refine jj_inc rfl rfl ?_ | refine jj_s (pc' := 92) rfl rfl ?_
                      refine jj_s (pc' := 47) rfl rfl ?_
                      have e0 : ∀ x : Int32, x ||| 0 = x := fun x => b_ext fun i _ => by rw [b_or, b_0, Bool.or_false]
                      refine jj_h (h' := wM B m A3 Wy V h) ?_ (ih4 (b + 1) A3 (by omega) (by omega) hA3 hS3 hC3 (fun i hi hri q hq he => ?_))
                      · show wM B m (uF A3 7 b (A3 7 b ||| 0)) Wy V h = _
                        rw [e0, uF_id]
                      · refine hD3 i hi hri q ?_ he
                        by_cases z : q = a
                        · subst z
                          refine Or.inr ⟨rfl, ?_⟩
                          rcases hq with q' | q'
                          · omega
                          · by_cases zi : i = b
                            · subst zi; exact absurd he c2
                            · omega
                        · omega
                    · have c2 := (kd_e F a b).mp c2
                      have hab : a ≠ b := fun z => by have := hr a b ca cb c2; rw [z] at this; omega
                      refine jj_s (pc' := 74) rfl rfl ?_
                      refine jj_g rfl rfl wM_o rfl ?_
                      refine jj_s (pc' := 78) rfl rfl ?_
                      refine jj_mld 20 rfl rfl (by decide) (by first | assumption | omega) ?_
                      refine jj_s (pc' := 80) rfl rfl ?_
                      refine jj_s (pc' := 81) rfl rfl ?_
                      refine jj_s (pc' := 82) rfl rfl ?_
                      refine jj_s (pc' := 83) rfl rfl ?_
                      refine jj_s (pc' := 87) rfl rfl ?_
                      refine jj_s (pc' := 88) rfl rfl ?_
                      refine jj_mst (j := 7) 20 rfl rfl (by decide) (by omega) ?_
                      first | refine jj_inc rfl rfl ?_ | refine jj_s (pc' := 92) rfl rfl ?_
                      refine jj_s (pc' := 47) rfl rfl ?_
                      have eb : ∀ p, bt (A3 7 b ||| (A3 7 a ||| bit a)) p = (bt (A3 7 b) p || (bt (A3 7 a) p || decide (p = a))) := fun p => by rw [b_or, b_or, bt_bit (by omega)]
                      refine ih4 (b + 1) (uF A3 7 b (A3 7 b ||| (A3 7 a ||| bit a))) (by omega) (by omega) (fun j hj => by rw [uF_j _ _ _ _ hj]; exact hA3 j hj) (fun i hi p hp => ?_) (fun i hi hri p hp => ?_) (fun i hi hri q hq he p hp => ?_)
                      · by_cases ei : i = b
                        · subst ei
                          rw [uF_s, eb, Bool.or_eq_true, Bool.or_eq_true, decide_eq_true_eq] at hp
                          rcases hp with hp | hp | hp
                          · exact hS3 i hi p hp
                          · exact hb.step hi ca c2 (hS3 a ca p hp)
                          · subst hp; exact hb.edge hi ca c2
                        · rw [uF_i _ _ _ _ ei] at hp; exact hS3 i hi p hp
                      · by_cases ei : i = b
                        · subst ei; rw [uF_s, eb, hC3 i hi hri p hp]; rfl
                        · rw [uF_i _ _ _ _ ei]; exact hC3 i hi hri p hp
                      · by_cases ei : i = b
                        · subst ei
                          rw [uF_s, eb]
                          by_cases eq : q = a
                          · subst eq
                            rcases hp with hp | hp
                            · rw [decide_eq_true hp.symm]; simp
                            · rw [hC3 q ca (by have := hr q i ca hi he; omega) p hp]; simp
                          · rw [hD3 i hi hri q (by omega) he p hp]; rfl
                        · rw [uF_i _ _ _ _ ei]; exact hD3 i hi hri q (by omega) he p hp
              exact L4 (N + 1) 0 A2 (by omega) (by omega) hA2 hS2 hC2 (fun i hi hri q hq => hD2 i hi hri q (by omega))
        exact L3 (N + 1) 0 A1 _ (by omega) (by omega) hA hS hC (fun i hi hri q hq => absurd hq (by omega))
  have L1 : ∀ d k (A1 : Nat → Nat → Int32), k ≤ 20 → 21 ≤ k + d → (∀ j, j ≠ 7 → A1 j = A j) → (∀ i, i < k → A1 7 i = 0) → JJ X0 G B M9_layAhead 2 [some (.ref (B + m)), some (.int (nI k)), none, none] [] n (wM B m A1 Wy V h) 0 0 (laQ B m n N F A Wy V h) := by
    intro d
    induction d with
    | zero => intro k A1 h1 h2; exact absurd h2 (by omega)
    | succ d ih =>
      intro k A1 h1 h2 hA hZ
      refine jj_s (pc' := 3) rfl rfl ?_
      refine jj_s (pc' := 5) rfl rfl ?_
      refine jj_geN (b := 20) 21 rfl rfl (by omega) (by omega) (fun c => ?_) (fun c => ?_)
      · refine jj_s (pc' := 22) rfl rfl ?_
        refine jj_s (pc' := 23) rfl rfl ?_
        exact L2 (N + 1) 0 A1 _ _ (by omega) (by omega) hA (fun i hi p hp => by rw [hZ i (by omega), b_0] at hp; cases hp) (fun i hi q => by omega)
      · refine jj_s (pc' := 9) rfl rfl ?_
        refine jj_g rfl rfl wM_o rfl ?_
        refine jj_s (pc' := 13) rfl rfl ?_
        refine jj_s (pc' := 14) rfl rfl ?_
        refine jj_mst 20 rfl rfl (by decide) (by first | assumption | omega) ?_
        first | refine jj_inc rfl rfl ?_ | refine jj_s (pc' := 18) rfl rfl ?_
        refine jj_s (pc' := 2) rfl rfl ?_
        refine ih (k + 1) _ (by omega) (by omega) (fun j hj => by rw [uF_j _ _ _ _ hj]; exact hA j hj) (fun i hi => ?_)
        by_cases ei : i = k
        · subst ei; rw [uF_s]; rfl
        · rw [uF_i _ _ _ _ ei]; exact hZ i (by omega)
  exact L1 21 0 A (by omega) (by omega) (fun j _ => rfl) (fun i hi => absurd hi (by omega))
