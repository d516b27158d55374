/-! the reference's width -/
set_option maxHeartbeats 4000000 in
set_option maxRecDepth 100000 in
 theorem c9_changePartners {G : GC} {B n m : Nat} {A : Nat → Nat → Int32} {Wy : Nat → Int64} {V : Nat → Int32} {h : HT} {N : Nat} {op : Int32} {bf : Nat → Int32} {nx pv : Nat → Option Nat} {og rho : Nat → Nat} {Rd : Nat → Prop} {f l : Nat} (hN : N ≤ 20) (hw0 : A 0 0 = nI N) (hop : ∀ i, bt op i = true → i < N) (hM : Mt (Xc op bf) nx pv) (hf : nx f = none) (hfN : f < N) (hO : ∀ i, Rd i → i < N ∧ A 11 i = nI (og i) ∧ (Xc op bf) (og i) i = true ∧ (og i = f ∨ ∃ j, Rd j ∧ rho j < rho i ∧ pv j = some (og i))) (hA : ∀ i, i < N → A 10 i = enc (pv i)) (hl : Rd l) (hr : rho l < 20) (hp : pv l = none) : CtJ G B M9_changePartners [.ref (B + m), .int (nI l), .int (nI f)] n (wM B m A Wy V h) 0 0 (fun r2 n2 h2 => r2 = none ∧ n2 = n ∧ ∃ A', h2 = wM B m A' Wy V h ∧ (∀ j, j ≠ 10 → A' j = A j) ∧ ∀ i, i < N → A' 10 i = enc ((pa og 20 (some l) nx pv).2 i)) := by
  unfold CtJ
  refine jj_lv (lv' := [some (.ref (B + m)), some (.int (nI l)), some (.int (nI f)), none, none, none, none, none]) rfl ?_
  refine jj_s (pc' := 1) rfl rfl ?_
  refine jj_s (pc' := 2) rfl rfl ?_
  refine jj_s (pc' := 3) rfl rfl ?_
  refine jj_s (pc' := 5) rfl rfl ?_
  have L1 : ∀ q cur (nx1 pv1 : Nat → Option Nat) (A2 : Nat → Nat → Int32) z5 z6 z7, Rd cur → rho cur < q → nx1 f = none → (∀ j p, Rd j → rho j < rho cur → pv j = some p → nx1 p = some j) → (∀ a b, b ≠ cur → (pv1 b = some a ↔ nx1 a = some b)) → (∀ a, nx1 a ≠ some cur) → (∀ a b, pv1 b = some a → (Xc op bf) a b = true) → (∀ j, Rd j → rho j ≤ rho cur → pv1 j = pv j) → (∀ j, j ≠ 10 → A2 j = A j) → (∀ i, i < N → A2 10 i = enc (pv1 i)) → (pa og q (some cur) nx1 pv1).2 = (pa og 20 (some l) nx pv).2 → JJ X0 G B M9_changePartners 5 [some (.ref (B + m)), some (.int (nI l)), some (.int (nI f)), some (.int (nI cur)), some (.int (1)), z5, z6, z7] [] n (wM B m A2 Wy V h) 0 0 (fun r2 n2 h2 => r2 = none ∧ n2 = n ∧ ∃ A', h2 = wM B m A' Wy V h ∧ (∀ j, j ≠ 10 → A' j = A j) ∧ ∀ i, i < N → A' 10 i = enc ((pa og 20 (some l) nx pv).2 i)) := by
    intro q
    induction q with
    | zero => intro cur nx1 pv1 A2 z5 z6 z7 _ hh; omega
    | succ q ih =>
      intro cur nx1 pv1 A2 z5 z6 z7 hR hm' hf1 h1 h2 h3 h4 h5 hA2 hA10 hE
      obtain ⟨o0, o1, o2, o3⟩ := hO cur hR
      have hog : og cur < N := hop _ (Xc_t.mp o2).1
      have hw0 : A2 0 0 = nI N := by rw [hA2 0 (by decide)]; exact hw0
      have hE : (pa og q (nx1 (og cur)) (va_up nx1 (og cur) (some cur)) (va_up pv1 cur (some (og cur)))).2 = (pa og 20 (some l) nx pv).2 := hE
      -- who has the origin now
      have hcur : pv1 cur ≠ some (og cur) := by
        rw [h5 cur hR (Nat.le_refl _)]
        intro z
        have z1 := (hM.1 _ _ z).2
        rcases o3 with e | ⟨j, j1, j2, j3⟩
        · rw [e, hf] at z1; cases z1
        · have := (hM.1 _ _ j3).2
          rw [z1] at this
          cases this
          omega
      have who : ∀ j, pv1 j = some (og cur) ↔ nx1 (og cur) = some j := fun j => by
        by_cases e : j = cur
        · subst e; exact ⟨fun z => absurd z hcur, fun z => absurd z (h3 _)⟩
        · exact h2 _ _ e
      refine jj_s (pc' := 7) rfl rfl ?_
      refine jj_if_eq 90 rfl rfl (fun c => absurd c (by decide)) (fun _ => ?_)
      refine jj_s (pc' := 11) rfl rfl ?_
      refine jj_g rfl rfl wM_o rfl ?_
      refine jj_s (pc' := 15) rfl rfl ?_
      refine jj_mld 20 rfl rfl (by decide) (by first | assumption | omega) ?_
      rw [hA2 11 (by decide), o1]
      refine jj_s (pc' := 18) rfl rfl ?_
      refine jj_s (pc' := 20) rfl rfl ?_
      refine jj_s (pc' := 22) rfl rfl ?_
      refine jj_s (pc' := 23) rfl rfl ?_
      refine jj_s (pc' := 25) rfl rfl ?_
      have L2 : ∀ d k (x6 : Int32), k ≤ N → N + 1 ≤ k + d → ((∀ j, j < k → pv1 j ≠ some (og cur)) → x6 = -7) → (∀ j, j < k → pv1 j = some (og cur) → x6 = nI j) → JJ X0 G B M9_changePartners 25 [some (.ref (B + m)), some (.int (nI l)), some (.int (nI f)), some (.int (nI cur)), some (.int (1)), some (.int (nI (og cur))), some (.int x6), some (.int (nI k))] [] n (wM B m A2 Wy V h) 0 0 (fun r2 n2 h2 => r2 = none ∧ n2 = n ∧ ∃ A', h2 = wM B m A' Wy V h ∧ (∀ j, j ≠ 10 → A' j = A j) ∧ ∀ i, i < N → A' 10 i = enc ((pa og 20 (some l) nx pv).2 i)) := by
        intro d
        induction d with
        | zero => intro k x6 g1 g2; exact absurd g2 (by omega)
        | succ d ih2 =>
          intro k x6 g1 g2 x1 x2
          refine jj_s (pc' := 27) rfl rfl ?_
          refine jj_s (pc' := 28) rfl rfl ?_
          refine jj_g rfl rfl wM_o rfl ?_
          refine jj_s (pc' := 32) rfl rfl ?_
          refine jj_m0 hw0 rfl ?_
          refine jj_geN 63 rfl rfl (by omega) (by omega) (fun ck => ?_) (fun ck => ?_)
          · have hkN : k = N := by omega
            subst hkN
            refine jj_s (pc' := 64) rfl rfl ?_
            refine jj_g rfl rfl wM_o rfl ?_
            refine jj_s (pc' := 68) rfl rfl ?_
            refine jj_s (pc' := 70) rfl rfl ?_
            refine jj_mst 20 rfl rfl (by decide) (by first | assumption | omega) ?_
            refine jj_s (pc' := 73) rfl rfl ?_
            refine jj_s (pc' := 74) rfl rfl ?_
            have hPA : ∀ i, i < k → uF A2 10 cur (nI (og cur)) 10 i = enc (va_up pv1 cur (some (og cur)) i) := fun i hi => by
              by_cases e : i = cur
              · subst e; rw [uF_s, va_up_s]; rfl
              · rw [uF_i _ _ _ _ e, va_up_n e]; exact hA10 i hi
            have hA2' : ∀ j, j ≠ 10 → uF A2 10 cur (nI (og cur)) j = A j := fun j hj => by rw [uF_j _ _ _ _ hj]; exact hA2 j hj
            by_cases e : og cur = f
            · refine jj_icmp_eq 81 rfl rfl (fun _ => ?_) (fun c => absurd (by rw [e]) c)
              refine jj_s (pc' := 82) rfl rfl ?_
              refine jj_s (pc' := 84) rfl rfl ?_
              refine jj_s (pc' := 86) rfl rfl ?_
              refine jj_s (pc' := 87) rfl rfl ?_
              refine jj_s (pc' := 5) rfl rfl ?_
              refine jj_s (pc' := 7) rfl rfl ?_
              refine jj_if_eq 90 rfl rfl (fun _ => ?_) (fun c => absurd rfl c)
              refine jj_vret rfl rfl ⟨rfl, rfl, _, rfl, hA2', fun i hi => ?_⟩
              rw [← hE, e, hf1, pa_none, ← e]
              exact hPA i hi
            · obtain ⟨j, j1, j2, j3⟩ := o3.resolve_left e
              have hnj := h1 j _ j1 j2 j3
              have hjc : j ≠ cur := fun z => by rw [z] at j2; omega
              have hjN := (hO j j1).1
              have hx6 := x2 j hjN ((who j).mpr hnj)
              subst hx6
              refine jj_icmp_eq 81 rfl rfl (fun c => absurd (nI_inj (by omega) (by omega) c) e) (fun _ => ?_)
              refine jj_s (pc' := 78) rfl rfl ?_
              refine jj_s (pc' := 82) rfl rfl ?_
              refine jj_s (pc' := 84) rfl rfl ?_
              refine jj_s (pc' := 86) rfl rfl ?_
              refine jj_s (pc' := 87) rfl rfl ?_
              refine jj_s (pc' := 5) rfl rfl ?_
              rw [hnj] at hE
              refine ih j (va_up nx1 (og cur) (some cur)) (va_up pv1 cur (some (og cur))) _ _ _ _ j1 (by omega) (by rw [va_up_n (fun z => e z.symm)]; exact hf1) (fun j' p hj' hr' hp => ?_) (fun a b hb => ?_) (fun a z => ?_) (fun a b z => ?_) (fun j' hj' hr' => ?_) hA2' hPA hE
              · have hn := h1 j' p hj' (by omega) hp
                rw [va_up_n (fun z => by rw [z, hnj] at hn; cases hn; omega)]
                exact hn
              · by_cases eb : b = cur
                · subst eb
                  rw [va_up_s]
                  by_cases ea : a = og b
                  · subst ea; rw [va_up_s]; simp
                  · rw [va_up_n ea]
                    exact ⟨fun z => by cases z; exact absurd rfl ea, fun z => absurd z (h3 a)⟩
                · rw [va_up_n eb]
                  by_cases ea : a = og cur
                  · subst ea
                    rw [va_up_s]
                    exact ⟨fun z => by have := (h2 _ b eb).mp z; rw [hnj] at this; cases this; exact absurd rfl hb, fun z => by cases z; exact absurd rfl eb⟩
                  · rw [va_up_n ea]
                    exact h2 a b eb
              · by_cases ea : a = og cur
                · subst ea; rw [va_up_s] at z; cases z; exact hjc rfl
                · rw [va_up_n ea] at z
                  have q1 := (h2 a j hjc).mpr z
                  have q2 := (h2 (og cur) j hjc).mpr hnj
                  rw [q1] at q2
                  cases q2
                  exact ea rfl
              · by_cases eb : b = cur
                · subst eb; rw [va_up_s] at z; cases z; exact o2
                · rw [va_up_n eb] at z; exact h4 a b z
              · rw [va_up_n (fun z => by rw [z] at hr'; omega)]
                exact h5 j' hj' (by omega)
          · refine jj_s (pc' := 37) rfl rfl ?_
            refine jj_g rfl rfl wM_o rfl ?_
            refine jj_s (pc' := 42) rfl rfl ?_
            refine jj_mld 20 rfl rfl (by decide) (by first | assumption | omega) ?_
            refine jj_s (pc' := 45) rfl rfl ?_
            rw [hA10 k ck]
            cases hpk : pv1 k with
            | none =>
              refine jj_icmp_ne 53 rfl rfl (fun _ => ?_) (fun c => absurd c (fun z => enc_ne (b := og cur) (by omega) z.symm))
              refine jj_s (pc' := 55) rfl rfl ?_
              refine jj_s (pc' := 57) rfl rfl ?_
              first | refine jj_inc rfl rfl ?_ | refine jj_s (pc' := 60) rfl rfl ?_
              refine jj_s (pc' := 25) rfl rfl ?_
              exact ih2 (k + 1) x6 (by omega) (by omega) (fun z => x1 (fun j hj => z j (by omega))) (fun j hj z => by
                by_cases ej : j = k
                · subst ej; rw [hpk] at z; cases z
                · exact x2 j (by omega) z)
            | some p =>
              have hpN : p < N := hop p (Xc_t.mp (h4 p k hpk)).1
              by_cases ep : p = og cur
              · subst ep
                refine jj_icmp_ne 53 rfl rfl (fun c => absurd rfl c) (fun _ => ?_)
                refine jj_s (pc' := 50) rfl rfl ?_
                refine jj_s (pc' := 55) rfl rfl ?_
                refine jj_s (pc' := 57) rfl rfl ?_
                first | refine jj_inc rfl rfl ?_ | refine jj_s (pc' := 60) rfl rfl ?_
                refine jj_s (pc' := 25) rfl rfl ?_
                refine ih2 (k + 1) (nI k) (by omega) (by omega) (fun z => absurd hpk (z k (by omega))) (fun j hj z => ?_)
                have e1 := (who j).mp z
                have e2 := (who k).mp hpk
                rw [e1] at e2
                cases e2
                rfl
              · refine jj_icmp_ne 53 rfl rfl (fun _ => ?_) (fun c => absurd (nI_inj (by omega) (by omega) c) ep)
                refine jj_s (pc' := 55) rfl rfl ?_
                refine jj_s (pc' := 57) rfl rfl ?_
                first | refine jj_inc rfl rfl ?_ | refine jj_s (pc' := 60) rfl rfl ?_
                refine jj_s (pc' := 25) rfl rfl ?_
                exact ih2 (k + 1) x6 (by omega) (by omega) (fun z => x1 (fun j hj => z j (by omega))) (fun j hj z => by
                  by_cases ej : j = k
                  · subst ej; rw [hpk] at z; cases z; exact absurd rfl ep
                  · exact x2 j (by omega) z)
      exact L2 (N + 1) 0 (-7) (by omega) (by omega) (fun _ => rfl) (fun j hj => absurd hj (by omega))
  exact L1 20 l nx pv A none none none hl hr hf (fun j p _ _ z => (hM.1 p j z).2) (fun a b _ => ⟨fun z => (hM.1 a b z).2, fun z => hM.2 a b z⟩) (fun a z => by have := hM.2 a l z; rw [hp] at this; cases this) (fun a b z => (hM.1 a b z).1) (fun j _ _ => rfl) (fun j _ => rfl) hA rfl
