/-! link of the reference -/
set_option maxHeartbeats 4000000 in
set_option maxRecDepth 100000 in
 theorem c9_measureTo {G : GC} {B n m : Nat} {A : Nat → Nat → Int32} {Wy : Nat → Int64} {V : Nat → Int32} {h : HT} {N : Nat} {S : Nat → Int32} {F : Nat → Nat → Int32} {rk : Nat → Nat} (hN : N ≤ 20) (hm : MW N S F (A 0)) (hr : Up (edg F) N rk) (hk : ∀ i, i < N → rk i < N) (hB : ∀ i, i < N → ∀ p, bt (prd F i) p = true → p < N) {l : Nat} (hl : l < N) : CtJ G B M9_measureTo [.ref (B + m), .int (nI l)] n (wM B m A Wy V h) 0 0 (fun r2 n2 h2 => r2 = none ∧ n2 = n ∧ ∃ A' s, h2 = wM B m A' Wy V h ∧ (∀ j, j ≠ 4 → A' j = A j) ∧ (∀ i, i < 20 → A' 4 i = nI (s i)) ∧ (∀ i, s i ≤ 99) ∧ DS F N l s) := by
  have hkd : ∀ p i, p < N → i < N → kdW (A 0) p i = kd F p i := hm.2.2.2
  unfold CtJ
  refine jj_lv (lv' := [some (.ref (B + m)), some (.int (nI l)), none, none, none]) rfl ?_
  refine jj_s (pc' := 1) rfl rfl ?_
  refine jj_s (pc' := 2) rfl rfl ?_
  have L0 : ∀ d k (A1 : Nat → Nat → Int32), k ≤ 20 → 21 ≤ k + d → (∀ j, j ≠ 4 → A1 j = A j) → (∀ i, i < k → A1 4 i = nI (if i = l then 0 else 99)) → JJ X0 G B M9_measureTo 2 [some (.ref (B + m)), some (.int (nI l)), some (.int (nI k)), none, none] [] n (wM B m A1 Wy V h) 0 0 (fun r2 n2 h2 => r2 = none ∧ n2 = n ∧ ∃ A' s, h2 = wM B m A' Wy V h ∧ (∀ j, j ≠ 4 → A' j = A j) ∧ (∀ i, i < 20 → A' 4 i = nI (s i)) ∧ (∀ i, s i ≤ 99) ∧ DS F N l s) := by
    intro d
    induction d with
    | zero => intro k A1 h1 h2; exact absurd h2 (by omega)
    | succ d ih =>
      intro k A1 h1 h2 p1 p2
      refine jj_s (pc' := 3) rfl rfl ?_
      refine jj_s (pc' := 5) rfl rfl ?_
      refine jj_geN (b := 20) 31 rfl rfl (by omega) (by omega) (fun ck => ?_) (fun ck => ?_)
      · have p2 : ∀ i, i < 20 → A1 4 i = nI ((fun i => if i = l then 0 else 99) i) := fun i hi => p2 i (by omega)
        have st := MJ.start (F := F) (N := N) (l := l) (by omega)
        generalize (fun i => if i = l then 0 else 99 : Nat → Nat) = s0 at p2 st
        refine jj_s (pc' := 32) rfl rfl ?_
        refine jj_s (pc' := 33) rfl rfl ?_
        have L1 : ∀ d r (A1 : Nat → Nat → Int32) (s : Nat → Nat) z3 z4, r ≤ N → N + 1 ≤ r + d → (∀ j, j ≠ 4 → A1 j = A j) → (∀ i, i < 20 → A1 4 i = nI (s i)) → MJ F N l r 0 0 s → JJ X0 G B M9_measureTo 33 [some (.ref (B + m)), some (.int (nI l)), some (.int (nI r)), z3, z4] [] n (wM B m A1 Wy V h) 0 0 (fun r2 n2 h2 => r2 = none ∧ n2 = n ∧ ∃ A' s, h2 = wM B m A' Wy V h ∧ (∀ j, j ≠ 4 → A' j = A j) ∧ (∀ i, i < 20 → A' 4 i = nI (s i)) ∧ (∀ i, s i ≤ 99) ∧ DS F N l s) := by
          intro d
          induction d with
          | zero => intro r A1 s z3 z4 h1 h2; exact absurd h2 (by omega)
          | succ d ih1 =>
            intro r A1 s z3 z4 h1 h2 q1 q2 q3
            have hw0 : A1 0 0 = nI N := by rw [q1 0 (by decide)]; exact hm.1
            refine jj_s (pc' := 34) rfl rfl ?_
            refine jj_s (pc' := 35) rfl rfl ?_
            refine jj_g rfl rfl wM_o rfl ?_
            refine jj_s (pc' := 39) rfl rfl ?_
            refine jj_m0 hw0 rfl ?_
            refine jj_geN 130 rfl rfl (by omega) (by omega) (fun cr => ?_) (fun cr => ?_)
            · have er : r = N := by omega
              rw [er] at q3
              exact jj_vret rfl rfl ⟨rfl, rfl, A1, s, rfl, q1, q2, q3.1, q3.fin hN hr hk hB hl⟩
            · refine jj_s (pc' := 44) rfl rfl ?_
              refine jj_s (pc' := 45) rfl rfl ?_
              have L2 : ∀ d a (A1 : Nat → Nat → Int32) (s : Nat → Nat) z4, a ≤ N → N + 1 ≤ a + d → (∀ j, j ≠ 4 → A1 j = A j) → (∀ i, i < 20 → A1 4 i = nI (s i)) → MJ F N l r a 0 s → JJ X0 G B M9_measureTo 45 [some (.ref (B + m)), some (.int (nI l)), some (.int (nI r)), some (.int (nI a)), z4] [] n (wM B m A1 Wy V h) 0 0 (fun r2 n2 h2 => r2 = none ∧ n2 = n ∧ ∃ A' s, h2 = wM B m A' Wy V h ∧ (∀ j, j ≠ 4 → A' j = A j) ∧ (∀ i, i < 20 → A' 4 i = nI (s i)) ∧ (∀ i, s i ≤ 99) ∧ DS F N l s) := by
                intro d
                induction d with
                | zero => intro a A1 s z4 h1 h2; exact absurd h2 (by omega)
                | succ d ih2 =>
                  intro a A1 s z4 h1 h2 q1 q2 q3
                  have hw0 : A1 0 0 = nI N := by rw [q1 0 (by decide)]; exact hm.1
                  refine jj_s (pc' := 46) rfl rfl ?_
                  refine jj_s (pc' := 47) rfl rfl ?_
                  refine jj_g rfl rfl wM_o rfl ?_
                  refine jj_s (pc' := 51) rfl rfl ?_
                  refine jj_m0 hw0 rfl ?_
                  refine jj_geN 124 rfl rfl (by omega) (by omega) (fun ca => ?_) (fun ca => ?_)
                  · have ea : a = N := by omega
                    rw [ea] at q3
                    first | refine jj_inc rfl rfl ?_ | refine jj_s (pc' := 127) rfl rfl ?_
                    refine jj_s (pc' := 33) rfl rfl ?_
                    exact ih1 (r + 1) A1 s _ _ (by omega) (by omega) q1 q2 q3.round
                  · refine jj_s (pc' := 56) rfl rfl ?_
                    refine jj_s (pc' := 58) rfl rfl ?_
                    have L3 : ∀ d b (A1 : Nat → Nat → Int32) (s : Nat → Nat), b ≤ N → N + 1 ≤ b + d → (∀ j, j ≠ 4 → A1 j = A j) → (∀ i, i < 20 → A1 4 i = nI (s i)) → MJ F N l r a b s → JJ X0 G B M9_measureTo 58 [some (.ref (B + m)), some (.int (nI l)), some (.int (nI r)), some (.int (nI a)), some (.int (nI b))] [] n (wM B m A1 Wy V h) 0 0 (fun r2 n2 h2 => r2 = none ∧ n2 = n ∧ ∃ A' s, h2 = wM B m A' Wy V h ∧ (∀ j, j ≠ 4 → A' j = A j) ∧ (∀ i, i < 20 → A' 4 i = nI (s i)) ∧ (∀ i, s i ≤ 99) ∧ DS F N l s) := by
                      intro d
                      induction d with
                      | zero => intro b A1 s h1 h2; exact absurd h2 (by omega)
                      | succ d ih3 =>
                        intro b A1 s h1 h2 q1 q2 q3
                        have hw0 : A1 0 0 = nI N := by rw [q1 0 (by decide)]; exact hm.1
                        refine jj_s (pc' := 60) rfl rfl ?_
                        refine jj_s (pc' := 61) rfl rfl ?_
                        refine jj_g rfl rfl wM_o rfl ?_
                        refine jj_s (pc' := 65) rfl rfl ?_
                        refine jj_m0 hw0 rfl ?_
                        refine jj_geN 118 rfl rfl (by omega) (by omega) (fun cb => ?_) (fun cb => ?_)
                        · have eb : b = N := by omega
                          rw [eb] at q3
                          first | refine jj_inc rfl rfl ?_ | refine jj_s (pc' := 121) rfl rfl ?_
                          refine jj_s (pc' := 45) rfl rfl ?_
                          exact ih2 (a + 1) A1 s _ (by omega) (by omega) q1 q2 q3.row
                        · have l99 := q3.1
                          refine jj_s (pc' := 70) rfl rfl ?_
                          refine jj_s (pc' := 71) rfl rfl ?_
                          refine jj_s (pc' := 73) rfl rfl ?_
                          refine jj_v2 rfl rfl rfl wM_o rfl rfl (c9_kindOf (by omega) (by omega)) ?_
                          rw [q1 0 (by decide), hkd a b ca cb]
                          refine jj_if_lt 112 rfl rfl (fun c3 => ?_) (fun c3 => ?_)
                          · have c3 := (kd_n F a b).mp c3
                            first | refine jj_inc rfl rfl ?_ | refine jj_s (pc' := 115) rfl rfl ?_
                            refine jj_s (pc' := 58) rfl rfl ?_
                            exact ih3 (b + 1) A1 s (by omega) (by omega) q1 q2 (q3.keep cb (fun z => by rw [c3] at z; cases z))
                          · have c3 : bt (prd F b) a = true := by
                              cases hb : bt (prd F b) a
                              · exact absurd ((kd_n F a b).mpr hb) c3
                              · rfl
                            have la := l99 a
                            have lb := l99 b
                            refine jj_s (pc' := 80) rfl rfl ?_
                            refine jj_g rfl rfl wM_o rfl ?_
                            refine jj_s (pc' := 85) rfl rfl ?_
                            refine jj_mld 20 rfl rfl (by decide) (by first | assumption | omega) ?_
                            refine jj_s (pc' := 87) rfl rfl ?_
                            refine jj_s (pc' := 88) rfl rfl ?_
                            refine jj_s (pc' := 89) rfl rfl ?_
                            refine jj_g rfl rfl wM_o rfl ?_
                            refine jj_s (pc' := 93) rfl rfl ?_
                            refine jj_mld 20 rfl rfl (by decide) (by first | assumption | omega) ?_
                            refine jj_st (by rw [q2 a (by omega), q2 b (by omega), show nI (s b) + Int32.ofInt 1 = nI (s b + 1) from nI_1 _]) ?_
                            refine jj_geN 112 rfl rfl (by omega) (by omega) (fun c4 => ?_) (fun c4 => ?_)
                            · first | refine jj_inc rfl rfl ?_ | refine jj_s (pc' := 115) rfl rfl ?_
                              refine jj_s (pc' := 58) rfl rfl ?_
                              exact ih3 (b + 1) A1 s (by omega) (by omega) q1 q2 (q3.keep cb (fun _ => c4))
                            · refine jj_s (pc' := 98) rfl rfl ?_
                              refine jj_g rfl rfl wM_o rfl ?_
                              refine jj_s (pc' := 102) rfl rfl ?_
                              refine jj_s (pc' := 103) rfl rfl ?_
                              refine jj_g rfl rfl wM_o rfl ?_
                              refine jj_s (pc' := 108) rfl rfl ?_
                              refine jj_mld 20 rfl rfl (by decide) (by first | assumption | omega) ?_
                              refine jj_s (pc' := 110) rfl rfl ?_
                              refine jj_s (pc' := 111) rfl rfl ?_
                              refine jj_mst 20 rfl rfl (by decide) (by first | assumption | omega) ?_
                              refine jj_h (h' := wM B m (uF A1 4 a (nI (s b + 1))) Wy V h) (by rw [q2 b (by omega), show nI (s b) + Int32.ofInt 1 = nI (s b + 1) from nI_1 _]) ?_
                              first | refine jj_inc rfl rfl ?_ | refine jj_s (pc' := 115) rfl rfl ?_
                              refine jj_s (pc' := 58) rfl rfl ?_
                              refine ih3 (b + 1) _ (nu s a (s b + 1)) (by omega) (by omega) (fun j hj => by rw [uF_j _ _ _ _ hj]; exact q1 j hj) (fun i hi => ?_) (q3.put ca cb c3 c4)
                              by_cases e : i = a
                              · subst e; rw [uF_s, nu_s]
                              · rw [uF_i _ _ _ _ e, nu_n _ _ _ e]; exact q2 i hi
                    exact L3 (N + 1) 0 A1 s (by omega) (by omega) q1 q2 q3
              exact L2 (N + 1) 0 A1 s _ (by omega) (by omega) q1 q2 q3
        exact L1 (N + 1) 0 A1 s0 _ _ (by omega) (by omega) p1 p2 st
      · have put : ∀ v : Nat, v = (if k = l then 0 else 99) → JJ X0 G B M9_measureTo 24 [some (.ref (B + m)), some (.int (nI l)), some (.int (nI k)), none, none] [.int (nI v), .int (nI k), .ref (B + (m + 5))] n (wM B m A1 Wy V h) 0 0 (fun r2 n2 h2 => r2 = none ∧ n2 = n ∧ ∃ A' s, h2 = wM B m A' Wy V h ∧ (∀ j, j ≠ 4 → A' j = A j) ∧ (∀ i, i < 20 → A' 4 i = nI (s i)) ∧ (∀ i, s i ≤ 99) ∧ DS F N l s) := by
          intro v hv
          refine jj_mst (j := 4) (i := k) 20 rfl rfl (by decide) (by omega) ?_
          first | refine jj_inc rfl rfl ?_ | refine jj_s (pc' := 28) rfl rfl ?_
          refine jj_s (pc' := 2) rfl rfl ?_
          refine ih (k + 1) _ (by omega) (by omega) (fun j hj => by rw [uF_j _ _ _ _ hj]; exact p1 j hj) (fun i hi => ?_)
          by_cases e : i = k
          · subst e; rw [uF_s, hv]
          · rw [uF_i _ _ _ _ e]; exact p2 i (by omega)
        refine jj_s (pc' := 9) rfl rfl ?_
        refine jj_g rfl rfl wM_o rfl ?_
        refine jj_s (pc' := 13) rfl rfl ?_
        refine jj_s (pc' := 14) rfl rfl ?_
        refine jj_s (pc' := 15) rfl rfl ?_
        refine jj_icmp_ne 22 rfl rfl (fun c1 => ?_) (fun c1 => ?_)
        · refine jj_s (pc' := 24) rfl rfl ?_
          exact put 99 (by rw [if_neg (fun z => c1 (by rw [z]))])
        · refine jj_s (pc' := 19) rfl rfl ?_
          refine jj_s (pc' := 24) rfl rfl ?_
          exact put 0 (by rw [if_pos (nI_inj (by omega) (by omega) c1)])
  exact L0 21 0 A (by omega) (by omega) (fun j _ => rfl) (fun i hi => absurd hi (by omega))
set_option maxHeartbeats 4000000 in
set_option maxRecDepth 100000 in
 theorem c9_keepPath {G : GC} {B n m : Nat} {A : Nat → Nat → Int32} {Wy : Nat → Int64} {V : Nat → Int32} {h : HT} {N : Nat} {S : Nat → Int32} {F : Nat → Nat → Int32} (hN : N ≤ 20) (hm : MW N S F (A 0)) {l f D : Nat} {s : Nat → Nat} (hl : l < N) (hf : f < N) (hs : ∀ i, i < 20 → A 4 i = nI (s i)) (h99 : ∀ i, s i ≤ 99) (hD : DS F N l s) (hsf : s f = D) (h19 : D ≤ 19) (hb : bt (rg F N l D) f = true) : CtJ G B M9_keepPath [.ref (B + m), .int (nI f), .int (nI l)] n (wM B m A Wy V h) 0 0 (fun r2 n2 h2 => r2 = none ∧ n2 = n ∧ ∃ A', h2 = wM B m A' Wy (upd V 4 (nI (D + 1))) h ∧ (∀ j, j ≠ 2 → A' j = A j) ∧ ∀ i, i ≤ D → A' 2 i = nI (ptW F N f l D i)) := by
  have hkd : ∀ p i, p < N → i < N → kdW (A 0) p i = kd F p i := hm.2.2.2
  have hp := ptW_ok (l := l) hf hb
  have hps := ptW_s hD hf hb hsf h19
  have l0 : s l ≤ 0 := hD.2 l hl 0 ((rg_0 (by omega)).mpr rfl)
  have sm99 : ∀ i, i < N → s i ≤ 18 → bt (rg F N l (s i)) i = true := fun i hi h18 => (hD.1 i hi).elim (fun q => by omega) id
  unfold CtJ
  refine jj_lv (lv' := [some (.ref (B + m)), some (.int (nI f)), some (.int (nI l)), none, none]) rfl ?_
  refine jj_s (pc' := 1) rfl rfl ?_
  refine jj_g rfl rfl wM_o rfl ?_
  refine jj_s (pc' := 5) rfl rfl ?_
  refine jj_s (pc' := 6) rfl rfl ?_
  refine jj_mst (i := 0) 20 rfl rfl (by decide) (by decide) ?_
  refine jj_s (pc' := 8) rfl rfl ?_
  refine jj_s (pc' := 9) rfl rfl ?_
  refine jj_mpt rfl rfl rfl rfl rfl rfl ?_
  refine jj_s (pc' := 13) rfl rfl ?_
  refine jj_s (pc' := 14) rfl rfl ?_
  have L1 : ∀ d i (A1 : Nat → Nat → Int32) (V1 : Nat → Int32) z4, i ≤ D → D + 1 ≤ i + d → V1 = upd V 4 (nI (i + 1)) → (∀ j, j ≠ 2 → A1 j = A j) → (∀ k, k ≤ i → A1 2 k = nI (ptW F N f l D k)) → JJ X0 G B M9_keepPath 14 [some (.ref (B + m)), some (.int (nI f)), some (.int (nI l)), some (.int (nI (ptW F N f l D i))), z4] [] n (wM B m A1 Wy V1 h) 0 0 (fun r2 n2 h2 => r2 = none ∧ n2 = n ∧ ∃ A', h2 = wM B m A' Wy (upd V 4 (nI (D + 1))) h ∧ (∀ j, j ≠ 2 → A' j = A j) ∧ ∀ i, i ≤ D → A' 2 i = nI (ptW F N f l D i)) := by
    intro d
    induction d with
    | zero => intro i A1 V1 z4 h1 h2; exact absurd h2 (by omega)
    | succ d ih =>
      intro i A1 V1 z4 h1 h2 hV q1 q2
      obtain ⟨w1, w2, w3⟩ := hp i h1
      have wi := hps i h1
      refine jj_s (pc' := 15) rfl rfl ?_
      refine jj_s (pc' := 16) rfl rfl ?_
      refine jj_icmp_eq 82 rfl rfl (fun c => ?_) (fun c => ?_)
      · have c := nI_inj (by omega) (by omega) c
        rw [c] at wi
        have ei : i = D := by omega
        rw [ei] at hV q2
        rw [hV]
        exact jj_vret rfl rfl ⟨rfl, rfl, A1, rfl, q1, q2⟩
      · have hiD : i < D := by
          rcases Nat.lt_or_ge i D with q | q
          · exact q
          · exfalso
            have ei : i = D := by omega
            rw [ei, Nat.sub_self] at w2
            rw [ei] at c
            exact c (by rw [(rg_0 (by omega)).mp w2])
        have w3 := w3 hiD
        obtain ⟨v1, v2, -⟩ := hp (i + 1) hiD
        have vi := hps (i + 1) hiD
        have hno := fdF_no (fun j => bt (rg F N l (D - (i + 1))) j && bt (prd F j) (ptW F N f l D i)) N 0
        have hyes := fdF_yes (fun j => bt (rg F N l (D - (i + 1))) j && bt (prd F j) (ptW F N f l D i)) N 0 (by simpa [lsc] using w3)
        have hno : ∀ j, j < ptW F N f l D (i + 1) → (bt (rg F N l (D - (i + 1))) j && bt (prd F j) (ptW F N f l D i)) = false := fun j hj => hno j (by omega) hj
        have hyes : (bt (rg F N l (D - (i + 1))) (ptW F N f l D (i + 1)) && bt (prd F (ptW F N f l D (i + 1))) (ptW F N f l D i)) = true := hyes
        rw [Bool.and_eq_true] at hyes
        generalize hnow : ptW F N f l D i = now at w1 w2 w3 wi c hno hyes ⊢
        generalize hnxt : ptW F N f l D (i + 1) = nxt at v1 v2 vi hno hyes
        have e4 : ∀ k, k < 20 → A1 4 k = nI (s k) := fun k hk => by rw [q1 4 (by decide)]; exact hs k hk
        have e0 : ∀ k, k < N → kdW (A1 0) now k = kd F now k := fun k hk => by rw [q1 0 (by decide)]; exact hkd now k w1 hk
        have emin : nI (s now) - Int32.ofInt 1 = nI (D - (i + 1)) := by
          rw [wi, show D - i = (D - (i + 1)) + 1 by omega]
          exact nI_pred _
        refine jj_s (pc' := 20) rfl rfl ?_
        refine jj_s (pc' := 22) rfl rfl ?_
        have L2 : ∀ e k, k + e = nxt → JJ X0 G B M9_keepPath 22 [some (.ref (B + m)), some (.int (nI f)), some (.int (nI l)), some (.int (nI now)), some (.int (nI k))] [] n (wM B m A1 Wy V1 h) 0 0 (fun r2 n2 h2 => r2 = none ∧ n2 = n ∧ ∃ A', h2 = wM B m A' Wy (upd V 4 (nI (D + 1))) h ∧ (∀ j, j ≠ 2 → A' j = A j) ∧ ∀ i, i ≤ D → A' 2 i = nI (ptW F N f l D i)) := by
          intro e
          induction e with
          | zero =>
            intro k hk
            have hk : k = nxt := by omega
            rw [hk]
            have hx20 : nxt < 20 := by omega
            refine jj_s (pc' := 23) rfl rfl ?_
            refine jj_s (pc' := 24) rfl rfl ?_
            refine jj_s (pc' := 26) rfl rfl ?_
            refine jj_v2 rfl rfl rfl wM_o rfl rfl (c9_kindOf (by omega) (by omega)) ?_
            rw [e0 nxt v1]
            refine jj_if_lt 50 rfl rfl (fun c3 => ?_) (fun _ => ?_)
            · have := (kd_n F now nxt).mp c3
              rw [hyes.2] at this; cases this
            · refine jj_s (pc' := 33) rfl rfl ?_
              refine jj_g rfl rfl wM_o rfl ?_
              refine jj_s (pc' := 38) rfl rfl ?_
              refine jj_mld 20 rfl rfl (by decide) (by first | assumption | omega) ?_
              refine jj_s (pc' := 40) rfl rfl ?_
              refine jj_g rfl rfl wM_o rfl ?_
              refine jj_s (pc' := 44) rfl rfl ?_
              refine jj_mld 20 rfl rfl (by decide) (by first | assumption | omega) ?_
              refine jj_s (pc' := 46) rfl rfl ?_
              refine jj_s (pc' := 47) rfl rfl ?_
              refine jj_st (by rw [e4 nxt (by omega), e4 now (by omega), emin, vi]) ?_
              refine jj_icmp_eq 56 rfl rfl (fun _ => ?_) (fun q => absurd rfl q)
              refine jj_s (pc' := 58) rfl rfl ?_
              refine jj_s (pc' := 59) rfl rfl ?_
              refine jj_s (pc' := 60) rfl rfl ?_
              refine jj_g rfl rfl wM_o rfl ?_
              refine jj_s (pc' := 64) rfl rfl ?_
              refine jj_g rfl rfl wM_o rfl ?_
              refine jj_s (pc' := 68) rfl rfl ?_
              rw [show V1 4 = nI (i + 1) by rw [hV, pk_us]]
              refine jj_mst (j := 2) (i := i + 1) 20 rfl rfl (by decide) (by omega) ?_
              refine jj_s (pc' := 70) rfl rfl ?_
              refine jj_s (pc' := 71) rfl rfl ?_
              refine jj_g rfl rfl wM_o rfl ?_
              refine jj_s (pc' := 75) rfl rfl ?_
              refine jj_s (pc' := 76) rfl rfl ?_
              refine jj_mpt rfl rfl rfl rfl rfl rfl ?_
              refine jj_s (pc' := 14) rfl rfl ?_
              rw [← hnxt]
              refine ih (i + 1) _ _ _ hiD (by omega) ?_ (fun j hj => by rw [uF_j _ _ _ _ hj]; exact q1 j hj) (fun k hk => ?_)
              · rw [hV, upd_upd, pk_us]
                exact congrArg (upd V 4) (nI_1 (i + 1))
              · by_cases ek : k = i + 1
                · subst ek; rw [uF_s]
                · rw [uF_i _ _ _ _ ek]; exact q2 k (by omega)
          | succ e ih2 =>
            intro k hk
            have hkn := hno k (by omega)
            refine jj_s (pc' := 23) rfl rfl ?_
            refine jj_s (pc' := 24) rfl rfl ?_
            refine jj_s (pc' := 26) rfl rfl ?_
            refine jj_v2 rfl rfl rfl wM_o rfl rfl (c9_kindOf (by omega) (by omega)) ?_
            rw [e0 k (by omega)]
            refine jj_if_lt 50 rfl rfl (fun c3 => ?_) (fun c3 => ?_)
            · first | refine jj_inc rfl rfl ?_ | refine jj_s (pc' := 53) rfl rfl ?_
              refine jj_s (pc' := 22) rfl rfl ?_
              exact ih2 (k + 1) (by omega)
            · have c3 : bt (prd F k) now = true := by
                cases hb : bt (prd F k) now
                · exact absurd ((kd_n F now k).mpr hb) c3
                · rfl
              rw [c3, Bool.and_true] at hkn
              refine jj_s (pc' := 33) rfl rfl ?_
              refine jj_g rfl rfl wM_o rfl ?_
              refine jj_s (pc' := 38) rfl rfl ?_
              refine jj_mld 20 rfl rfl (by decide) (by first | assumption | omega) ?_
              refine jj_s (pc' := 40) rfl rfl ?_
              refine jj_g rfl rfl wM_o rfl ?_
              refine jj_s (pc' := 44) rfl rfl ?_
              refine jj_mld 20 rfl rfl (by decide) (by first | assumption | omega) ?_
              refine jj_s (pc' := 46) rfl rfl ?_
              refine jj_s (pc' := 47) rfl rfl ?_
              refine jj_st (by rw [e4 k (by omega), e4 now (by omega), emin]) ?_
              refine jj_icmp_eq 56 rfl rfl (fun q => ?_) (fun _ => ?_)
              · exfalso
                have hsk := h99 k
                have q := nI_inj (by omega) (by omega) q
                have := sm99 k (by omega) (by omega)
                rw [q, hkn] at this; cases this
              · first | refine jj_inc rfl rfl ?_ | refine jj_s (pc' := 53) rfl rfl ?_
                refine jj_s (pc' := 22) rfl rfl ?_
                exact ih2 (k + 1) (by omega)
        exact L2 nxt 0 (by omega)
  exact L1 (D + 1) 0 _ _ none (by omega) (by omega) rfl (fun j hj => uF_j _ _ _ _ hj) (fun k hk => by rw [show k = 0 by omega]; exact uF_s _ _ _ _)
set_option maxHeartbeats 4000000 in
set_option maxRecDepth 100000 in
 theorem m_link {G : GC} {B n m N : Nat} {S : Nat → Int32} {F : Nat → Nat → Int32} {L : Nat} {pt : Nat → Int32} {len : Nat} {C : Nat → Int32} {sv : Nat → Option (Nat × (Nat → Int32) × (Nat → Nat → Int32))} {h : HT} (hN : N ≤ 20) (hM : ML B m N S F L pt len C sv h) (hG : Gr N F) (hL : L ≤ 20) (x y k : Int32) (hT : (isN N x && isN N y) = true → (k = 0 ∨ k = 1) → (decide (x = y) || bt (bfN F N (ix x)) (ix y)) = false → stt S N 1000 (ptF F (ix x) (ix y) k) = true) (hE : (isN N x && isN N y) = true → (k = 0 ∨ k = 1) → sm (fun i => bcF (prd (stl S N 1000 (ptF F (ix x) (ix y) k)) i)) N = nI (edN (stl S N 1000 (ptF F (ix x) (ix y) k)) N)) : CtJ G B M9_link [.ref (B + m), .int x, .int y, .int k] n h 0 0 (fun r2 n2 h2 => r2 = some (.int (zLnk N S F (bfN F N) x y k).1) ∧ n2 = n ∧ tk m h h2 ∧ ∀ wl' pt', zWt N F (bfN F N) x y k (nI L) wl' pt pt' → ∃ L', L' ≤ 20 ∧ wl' = nI L' ∧ ML B m N S (zLnk N S F (bfN F N) x y k).2 L' pt' len C sv h2) := by
  obtain ⟨⟨rk, hr, hk⟩, hW, hB⟩ := hG
  obtain ⟨A, Wy, V, hh, ha⟩ := hM
  have hw0 := ha.1.1
  have fin0 : ML B m N S F L pt len C sv (wM B m A Wy V h) ∧ tk m h (wM B m A Wy V h) := MLa.fin ha
  unfold CtJ
  refine jj_lv (lv' := [some (.ref (B + m)), some (.int x), some (.int y), some (.int k)]) rfl ?_
  refine jj_h hh ?_
  have bad : (isN N x && isN N y) = false → JJ X0 G B M9_link 16 [some (.ref (B + m)), some (.int x), some (.int y), some (.int k)] [] n (wM B m A Wy V h) 0 0 (fun r2 n2 h2 => r2 = some (.int (zLnk N S F (bfN F N) x y k).1) ∧ n2 = n ∧ tk m h h2 ∧ ∀ wl' pt', zWt N F (bfN F N) x y k (nI L) wl' pt pt' → ∃ L', L' ≤ 20 ∧ wl' = nI L' ∧ ML B m N S (zLnk N S F (bfN F N) x y k).2 L' pt' len C sv h2) := by
    intro hb
    have e : zLnk N S F (bfN F N) x y k = (-1, F) := by rw [zLnk, if_neg (by rw [hb]; decide)]
    rw [e]
    refine jj_s (pc' := 17) rfl rfl ?_
    refine jj_iret rfl rfl ⟨rfl, rfl, fin0.2, fun wl' pt' hz => ?_⟩
    unfold zWt at hz
    rw [if_neg (by rw [zCyc, hb]; simp)] at hz
    rw [hz.2]
    exact ⟨L, hL, hz.1, fin0.1⟩
  refine jj_s (pc' := 1) rfl rfl ?_
  refine jj_s (pc' := 2) rfl rfl ?_
  refine jj_v1 rfl rfl rfl wM_o rfl rfl (c9_isItem hN hw0 _) ?_
  refine jj_zT 16 rfl rfl (fun c1 => bad (by rw [c1]; rfl)) (fun c1 => ?_)
  refine jj_s (pc' := 9) rfl rfl ?_
  refine jj_s (pc' := 10) rfl rfl ?_
  refine jj_v1 rfl rfl rfl wM_o rfl rfl (c9_isItem hN hw0 _) ?_
  refine jj_zF 18 rfl rfl (fun c2 => ?_) (fun c2 => bad (by rw [c2]; simp))
  have ok : (isN N x && isN N y) = true := by rw [c1, c2]; rfl
  obtain ⟨i, hi, rfl⟩ := isN_of hN c1
  obtain ⟨j, hj, rfl⟩ := isN_of hN c2
  have hT := hT ok
  have hE := hE ok
  rw [ix_nI (by omega), ix_nI (by omega)] at hT hE
  obtain ⟨g1, g2, g3, g4, g5, g6, g7⟩ := ha.1.2.2.1 j hj
  refine jj_s (pc' := 19) rfl rfl ?_
  refine jj_s (pc' := 20) rfl rfl ?_
  refine jj_s (pc' := 21) rfl rfl ?_
  refine jj_t3 rfl rfl rfl rfl rfl (c9_isIn k 0 1) ?_
  refine jj_zF 30 rfl rfl (fun (c3 : wth k 0 1 = true) => ?_) (fun (c3 : wth k 0 1 = false) => ?_)
  · have k01 : k = 0 ∨ k = 1 := by
      have z := of_decide_eq_true c3
      exact le1_01 z.1 (Int32.not_lt.mpr z.2)
    have hE := hE k01
    refine jj_s (pc' := 31) rfl rfl ?_
    refine jj_s (pc' := 32) rfl rfl ?_
    refine jj_vp1 rfl rfl rfl wM_o rfl rfl (c9_measureTo hN ha.1 hr hk hB hi) (fun r n' h' q => ?_)
    obtain ⟨rfl, rfl, A1, s, rfl, q1, q2, q3, q4⟩ := q
    have ha1 : MLa N S F L pt len C sv A1 V := ha.w (by rw [q1 0 (by decide)]; exact ha.1) (fun j j1 _ => q1 j (by omega)) rfl rfl rfl
    have hcy := cyc_iff hN hr hB hi hj
    have l99 := q3 j
    refine jj_s (pc' := 36) rfl rfl ?_
    refine jj_g rfl rfl wM_o rfl ?_
    refine jj_s (pc' := 40) rfl rfl ?_
    refine jj_mld 20 rfl rfl (by decide) (by first | assumption | omega) ?_
    rw [q2 j (by omega)]
    refine jj_s (pc' := 43) rfl rfl ?_
    refine jj_geN (b := 99) 55 rfl rfl (by omega) (by omega) (fun c4 => ?_) (fun c4 => ?_)
    · have ncy : ¬ (decide (nI i = nI j) || bt (bfN F N i) j) = true := by
        intro z
        obtain ⟨d, hd⟩ := hcy.mp z
        have := q4.2 j hj d hd
        have := (rg_rk hN hr hB hi d j hd).2
        have := hk i hi
        omega
      have ncf : (decide (nI i = nI j) || bt (bfN F N i) j) = false := by
        cases hz : (decide (nI i = nI j) || bt (bfN F N i) j) with
        | true => exact absurd hz ncy
        | false => rfl
      have e2 : ∀ wl' pt', zWt N F (bfN F N) (nI i) (nI j) k (nI L) wl' pt pt' → wl' = nI L ∧ pt' = pt := by
        intro wl' pt' hz
        unfold zWt at hz
        rw [if_neg (by rw [zCyc, ok, c3, ix_nI (by omega), ix_nI (by omega), Bool.true_and, Bool.true_and]; exact ncy)] at hz
        exact hz
      refine jj_s (pc' := 56) rfl rfl ?_
      refine jj_s (pc' := 57) rfl rfl ?_
      refine jj_s (pc' := 59) rfl rfl ?_
      refine jj_v2 rfl rfl rfl wM_o rfl rfl (c9_of (a := 8) (by omega) (by decide)) ?_
      rw [(ha1.1.2.2.1 j hj).2.2.1]
      refine jj_s (pc' := 63) rfl rfl ?_
      refine jj_icmp_lt 69 rfl rfl (fun c5 => ?_) (fun c5 => ?_)
      · have e : zLnk N S F (bfN F N) (nI i) (nI j) k = (sm (fun a => bcF (prd (stl S N 1000 (ptF F i j k)) a)) N, stl S N 1000 (ptF F i j k)) := by rw [zLnk, if_pos ok, if_pos c3, ix_nI (by omega), ix_nI (by omega), if_neg ncy, if_pos ((lt2_01 g7).mp c5)]
        rw [e, hE]
        refine jj_s (pc' := 70) rfl rfl ?_
        refine jj_g rfl rfl wM_o rfl ?_
        refine jj_s (pc' := 76) rfl rfl ?_
        refine jj_s (pc' := 78) rfl rfl ?_
        refine jj_s (pc' := 79) rfl rfl ?_
        refine jj_s (pc' := 80) rfl rfl ?_
        refine jj_s (pc' := 81) rfl rfl ?_
        refine jj_s (pc' := 82) rfl rfl ?_
        refine jj_s (pc' := 83) rfl rfl ?_
        refine jj_s (pc' := 84) rfl rfl ?_
        refine jj_s (pc' := 85) rfl rfl ?_
        refine jj_s (pc' := 86) rfl rfl ?_
        refine jj_st (by rw [ixK i j]) ?_
        refine jj_mst 645 rfl rfl (by decide) (by omega) ?_
        refine jj_s (pc' := 88) rfl rfl ?_
        refine jj_vp0 rfl rfl rfl wM_o rfl rfl (c9_settle hN (F := ptF F i j k) (S := S) (by rw [uF_same]; exact ha1.1.pt hN hi hj k01) (hT k01 ncf)) (fun r n' h' q => ?_)
        obtain ⟨rfl, rfl, A', rfl, ha'⟩ := q.ml ha1 (fun k _ h0 => uF_j _ _ _ _ h0) rfl rfl rfl
        refine jj_s (pc' := 92) rfl rfl ?_
        refine jj_v0 rfl rfl rfl wM_o rfl rfl (c9_edges hN ha'.1) ?_
        have hf := MLa.fin (B := B) (m := m) (Wy := Wy) (h := h) ha'
        refine jj_iret rfl rfl ⟨rfl, rfl, hf.2, fun wl' pt' hz => ?_⟩
        obtain ⟨z1, z2⟩ := e2 wl' pt' hz
        rw [z2]
        exact ⟨L, hL, z1, hf.1⟩
      · have e : zLnk N S F (bfN F N) (nI i) (nI j) k = (-4, F) := by rw [zLnk, if_pos ok, if_pos c3, ix_nI (by omega), ix_nI (by omega), if_neg ncy, if_neg (fun z => c5 ((lt2_01 g7).mpr z))]
        rw [e]
        have hf := MLa.fin (B := B) (m := m) (Wy := Wy) (h := h) ha1
        refine jj_s (pc' := 68) rfl rfl ?_
        refine jj_iret rfl rfl ⟨rfl, rfl, hf.2, fun wl' pt' hz => ?_⟩
        obtain ⟨z1, z2⟩ := e2 wl' pt' hz
        rw [z2]
        exact ⟨L, hL, z1, hf.1⟩
    · obtain ⟨s1, s2⟩ := q4.small hN hr hk hB hi hj (by omega)
      have cy : (decide (nI i = nI j) || bt (bfN F N i) j) = true := hcy.mpr ⟨_, s2⟩
      have hds := q4.ds hj s1 s2
      have e : zLnk N S F (bfN F N) (nI i) (nI j) k = (-5, F) := by rw [zLnk, if_pos ok, if_pos c3, ix_nI (by omega), ix_nI (by omega), if_pos cy]
      rw [e]
      refine jj_s (pc' := 47) rfl rfl ?_
      refine jj_s (pc' := 48) rfl rfl ?_
      refine jj_s (pc' := 49) rfl rfl ?_
      refine jj_vp2 rfl rfl rfl wM_o rfl rfl (c9_keepPath (D := s j) hN ha1.1 hi hj q2 q3 q4 rfl s1 s2) (fun r n' h' q => ?_)
      obtain ⟨rfl, rfl, A2, rfl, p1, p2⟩ := q
      refine jj_s (pc' := 54) rfl rfl ?_
      refine jj_iret rfl rfl ⟨rfl, rfl, fun k hk => wM_n hk, fun wl' pt' hz => ?_⟩
      unfold zWt at hz
      rw [if_pos (by rw [zCyc, ok, c3, ix_nI (by omega), ix_nI (by omega), cy]; rfl), ix_nI (by omega), ix_nI (by omega), hds] at hz
      refine ⟨s j + 1, by omega, hz.1, A2, Wy, _, wM_wM.symm, ?_⟩
      obtain ⟨a0, a1, a2, a3, a4, a5⟩ := ha1
      refine ⟨by rw [p1 0 (by decide)]; exact a0, pk_us, fun t ht => ?_, (upd_n (by decide)).trans a3, fun t ht => by rw [p1 3 (by decide)]; exact a4 t ht, fun t ht => by rw [upd_n (by decide), p1 1 (by decide)]; exact a5 t ht⟩
      rw [p2 t (by omega), hz.2 t (by omega)]
  · have e : zLnk N S F (bfN F N) (nI i) (nI j) k = (-2, F) := by rw [zLnk, if_pos ok, if_neg (by rw [c3]; decide)]
    rw [e]
    refine jj_s (pc' := 29) rfl rfl ?_
    refine jj_iret rfl rfl ⟨rfl, rfl, fin0.2, fun wl' pt' hz => ?_⟩
    unfold zWt at hz
    rw [if_neg (by rw [zCyc, ok, c3]; simp)] at hz
    rw [hz.2]
    exact ⟨L, hL, hz.1, fin0.1⟩
