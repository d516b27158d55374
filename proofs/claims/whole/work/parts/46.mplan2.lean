theorem va_up_PA {F : Nat → Nat → Int32} {N : Nat} {st : Nat → Option Nat} {A : Nat → Nat → Int32} (hA : PA F N st A) {b t : Nat} {x : Int32} (hx : x = nI (t + wkN F b)) : PA F N (va_up st b (some t)) (uF (uF A 8 b (nI t)) 9 b x) := by
  intro i hi
  by_cases e : i = b
  · subst e
    rw [va_up_s, uF_j _ _ _ _ (by decide), uF_s, uF_s, hx]
    exact ⟨rfl, rfl⟩
  · rw [va_up_n e, uF_i _ _ _ _ e, uF_i _ _ _ _ e, uF_i _ _ _ _ e, uF_i _ _ _ _ e]
    exact hA i hi
set_option maxHeartbeats 4000000 in
set_option maxRecDepth 100000 in
 theorem c9_planned {G : GC} {B n m : Nat} {A : Nat → Nat → Int32} {Wy : Nat → Int64} {V : Nat → Int32} {h : HT} {N : Nat} {S : Nat → Int32} {F : Nat → Nat → Int32} {rk : Nat → Nat} {pol : Int32} {hg : Nat → Int32} {W tf : Nat} (hN : N ≤ 20) (hm : MW N S F (A 0)) (hr : Up (edg F) N rk) (hk : ∀ i, i < N → rk i < N) (hw : Wk F N) (hw1 : ∀ i, i < N → opF F i = true → 1 ≤ wkN F i) (hW : W ≤ 6) (htf : tf ≤ 1001) (hg0 : ∀ i, i < N → hg i = nI (hgN F N i)) (hall : ∀ i, i < N → opF F i = true → STF F N pol hg W tf i ≠ none) : CtJ G B M9_planned [.ref (B + m), .int (nI W), .int pol] n (wM B m A Wy V h) 0 0 (plQ B m n N F (STF F N pol hg W tf) A Wy V h) := by
  unfold CtJ
  refine jj_lv (lv' := [some (.ref (B + m)), some (.int (nI W)), some (.int pol), none, none, none, none, none, none, none]) rfl ?_
  refine jj_s (pc' := 1) rfl rfl ?_
  refine jj_vp0 rfl rfl rfl wM_o rfl rfl (c9_measure hN hm hr hk hw) (fun r n' h' q => ?_)
  obtain ⟨rfl, rfl, A1, rfl, hA1, hb1⟩ := q
  have hok : ∀ t, okS' (opF F) N (STF F N pol hg W t) t := fun t => ST_ok (op := opF F) (E := edg F) (w := wkN F) (R := plR F pol hg) (W := W) hw1 t
  -- time by time
  have L2 : ∀ d t (A2 : Nat → Nat → Int32) z6 z7 z8 z9, t ≤ tf → tf + 1 ≤ t + d → PA F N (STF F N pol hg W t) A2 → (∀ j, j ≠ 8 → j ≠ 9 → A2 j = A1 j) → JJ X0 G B M9_planned 67 [some (.ref (B + m)), some (.int (nI W)), some (.int pol), some (.int (nI (cn (opn F (STF F N pol hg W t)) N))), some (.int (nI (lst F N (STF F N pol hg W t)))), some (.int (nI t)), z6, z7, z8, z9] [] n' (wM B m A2 Wy V h) 0 0 (plQ B m n' N F (STF F N pol hg W tf) A Wy V h) := by
    intro d
    induction d with
    | zero => intro t A2 z6 z7 z8 z9 h1 h2; exact absurd h2 (by omega)
    | succ d ih =>
      intro t A2 z6 z7 z8 z9 h1 h2 hPA hA2
      have hm2 : MW N S F (A2 0) := by rw [hA2 0 (by decide) (by decide), hA1 0 (by decide) (by decide)]; exact hm
      have hw0 := hm2.1
      have hcle := cn_le (opn F (STF F N pol hg W t)) N
      refine jj_s (pc' := 68) rfl rfl ?_
      refine jj_if_le 320 rfl rfl (fun c => ?_) (fun c => ?_)
      · have c : cn (opn F (STF F N pol hg W t)) N = 0 := by
          have := (nI_leI (a := cn (opn F (STF F N pol hg W t)) N) (b := 0) (by omega) (by omega)).mp c
          omega
        have hst : ∀ i, i < N → opF F i = true → STF F N pol hg W t i ≠ none := fun i hi ho q => by
          have := cn_z c i hi
          unfold opn at this
          rw [ho, q] at this; cases this
        have e : STF F N pol hg W tf = STF F N pol hg W t := by
          have := ST_stop (op := opF F) (E := edg F) (w := wkN F) (R := plR F pol hg) (W := W) hw1 hst (tf - t)
          rw [show t + (tf - t) = tf by omega] at this
          exact this
        refine jj_s (pc' := 322) rfl rfl ?_
        refine jj_iret rfl rfl ⟨?_, rfl, A2, rfl, fun j hj => (hA2 j (by omega) (by omega)).trans (hA1 j (by omega) (by omega)), fun i hi => by rw [e]; exact (hPA i hi).1⟩
        rw [e, lst, mxN_congP (P' := opF F) (fun i hi => ?_)]
        cases ho : opF F i with
        | true =>
          cases hs : STF F N pol hg W t i with
          | none => exact absurd hs (hst i hi ho)
          | some s => rfl
        | false =>
          cases hs : STF F N pol hg W t i with
          | none => rfl
          | some s => have := (hok t i s hs).2.1; rw [ho] at this; cases this
      · have htlt : t < tf := by
          rcases Nat.lt_or_ge t tf with q | q
          · exact q
          · have : t = tf := by omega
            subst this
            have : cn (opn F (STF F N pol hg W t)) N = 0 := by
              have h0 := cn_mono (P := opn F (STF F N pol hg W t)) (Q := fun _ => false) (k := N) (fun i hi hp => by
                unfold opn at hp
                rw [Bool.and_eq_true, Option.isNone_iff_eq_none] at hp
                exact absurd hp.2 (hall i hi hp.1))
              have e0 : ∀ k, cn (fun _ => false) k = 0 := fun k => by
                induction k with
                | zero => rfl
                | succ k ihk => rw [cn, ihk, if_neg (by decide)]
              rw [e0] at h0
              omega
            rw [this] at c
            exact absurd (by decide) c
        -- what is begun at this time
        have L4 : ∀ f (st : Nat → Option Nat) (A2 : Nat → Nat → Int32) (x7 : Int32) z8 z9, ¬ x7 = -7 → okS' (opF F) N st (t + 1) → PA F N st A2 → (∀ j, j ≠ 8 → j ≠ 9 → A2 j = A1 j) → tkF F N pol hg W t f st = STF F N pol hg W (t + 1) → W ≤ cn (bsy (wkN F) st t) N + f → JJ X0 G B M9_planned 131 [some (.ref (B + m)), some (.int (nI W)), some (.int pol), some (.int (nI (cn (opn F st) N))), some (.int (nI (lst F N st))), some (.int (nI t)), some (.int (nI (cn (bsy (wkN F) st t) N))), some (.int x7), z8, z9] [] n' (wM B m A2 Wy V h) 0 0 (plQ B m n' N F (STF F N pol hg W tf) A Wy V h) := by
          intro f
          have out : ∀ (st : Nat → Option Nat) (A2 : Nat → Nat → Int32) z6 z7 z8 z9, PA F N st A2 → (∀ j, j ≠ 8 → j ≠ 9 → A2 j = A1 j) → st = STF F N pol hg W (t + 1) → JJ X0 G B M9_planned 314 [some (.ref (B + m)), some (.int (nI W)), some (.int pol), some (.int (nI (cn (opn F st) N))), some (.int (nI (lst F N st))), some (.int (nI t)), z6, z7, z8, z9] [] n' (wM B m A2 Wy V h) 0 0 (plQ B m n' N F (STF F N pol hg W tf) A Wy V h) := by
            intro st A2 z6 z7 z8 z9 hPA hA2 e
            subst e
            first | refine jj_inc rfl rfl ?_ | refine jj_s (pc' := 317) rfl rfl ?_
            refine jj_s (pc' := 67) rfl rfl ?_
            exact ih (t + 1) A2 _ _ _ _ (by omega) (by omega) hPA hA2
          induction f with
          | zero =>
            intro st A2 x7 z8 z9 hx hs hPA hA2 e hf
            refine jj_s (pc' := 133) rfl rfl ?_
            refine jj_s (pc' := 135) rfl rfl ?_
            refine jj_icmp_eq 314 rfl rfl (fun q => absurd q hx) (fun _ => ?_)
            refine jj_s (pc' := 140) rfl rfl ?_
            refine jj_s (pc' := 141) rfl rfl ?_
            have hcb := cn_le (bsy (wkN F) st t) N
            refine jj_geN 314 rfl rfl (by omega) (by omega) (fun _ => ?_) (fun q => absurd q (by omega))
            exact out st A2 _ _ _ _ hPA hA2 e
          | succ f ih4 =>
            intro st A2 x7 z8 z9 hx hs hPA hA2 e hf
            have hm2 : MW N S F (A2 0) := by rw [hA2 0 (by decide) (by decide), hA1 0 (by decide) (by decide)]; exact hm
            have hw0 := hm2.1
            have hsb : ∀ i s, st i = some s → s ≤ 2000 := fun i s hi => by have := (hs i s hi).2.2; omega
            have hcb := cn_le (bsy (wkN F) st t) N
            refine jj_s (pc' := 133) rfl rfl ?_
            refine jj_s (pc' := 135) rfl rfl ?_
            refine jj_icmp_eq 314 rfl rfl (fun q => absurd q hx) (fun _ => ?_)
            refine jj_s (pc' := 140) rfl rfl ?_
            refine jj_s (pc' := 141) rfl rfl ?_
            refine jj_geN 314 rfl rfl (by omega) (by omega) (fun q => ?_) (fun q => ?_)
            · refine out st A2 _ _ _ _ hPA hA2 ?_
              rw [← e]
              exact (tk_idle (Or.inl q) _).symm
            · refine jj_s (pc' := 146) rfl rfl ?_
              refine jj_s (pc' := 148) rfl rfl ?_
              refine jj_s (pc' := 149) rfl rfl ?_
              refine jj_s (pc' := 151) rfl rfl ?_
              have L5 : ∀ d k z9, k ≤ N → N + 1 ≤ k + d → JJ X0 G B M9_planned 151 [some (.ref (B + m)), some (.int (nI W)), some (.int pol), some (.int (nI (cn (opn F st) N))), some (.int (nI (lst F N st))), some (.int (nI t)), some (.int (nI (cn (bsy (wkN F) st t) N))), some (.int (enc (pkB (cdB (opF F) (edg F) (wkN F) N st t) (rkS (opF F) (edg F) (wkN F) N (plR F pol hg) st t) k))), some (.int (nI k)), z9] [] n' (wM B m A2 Wy V h) 0 0 (plQ B m n' N F (STF F N pol hg W tf) A Wy V h) := by
                intro d
                induction d with
                | zero => intro k z9 h1 h2; exact absurd h2 (by omega)
                | succ d ih5 =>
                  intro k z9 g1 g2
                  refine jj_s (pc' := 153) rfl rfl ?_
                  refine jj_s (pc' := 154) rfl rfl ?_
                  refine jj_g rfl rfl wM_o rfl ?_
                  refine jj_s (pc' := 158) rfl rfl ?_
                  refine jj_m0 hw0 rfl ?_
                  refine jj_geN 246 rfl rfl (by omega) (by omega) (fun ck => ?_) (fun ck => ?_)
                  · have hkN : k = N := by omega
                    subst hkN
                    cases hp : pkB (cdB (opF F) (edg F) (wkN F) k st t) (rkS (opF F) (edg F) (wkN F) k (plR F pol hg) st t) k with
                    | none =>
                      refine jj_s (pc' := 248) rfl rfl ?_
                      refine jj_s (pc' := 250) rfl rfl ?_
                      refine jj_icmp_eq 131 rfl rfl (fun _ => ?_) (fun c2 => absurd rfl c2)
                      refine jj_s (pc' := 133) rfl rfl ?_
                      refine jj_s (pc' := 135) rfl rfl ?_
                      refine jj_icmp_eq 314 rfl rfl (fun _ => ?_) (fun c2 => absurd rfl c2)
                      refine out st A2 _ _ _ _ hPA hA2 ?_
                      rw [← e]
                      exact (tk_idle (Or.inr (pkB_nil.mp hp)) _).symm
                    | some b =>
                      have hl := pkB_lt _ _ _ _ hp
                      obtain ⟨c1, c2, c3⟩ := cd_at hl.2
                      have hbN := hl.1
                      obtain ⟨k1, k2, k3, k4, k5, k6, k7⟩ := hm2.2.2.1 b hbN
                      have ew : ofW (A2 0) b 1 = nI (wkN F b) := (k1 1 (by omega)).trans (op_wk hw hbN c1)
                      have hwb := (hw b hbN).2
                      have hll := lst_le (F := F) (N := k) (st := st) hw hsb
                      have eu := bz_up (t := t) (hw1 b hbN c1) c2 hbN
                      have hco := opn_up (F := F) (t := t) hbN c2 c1
                      have hok2 : okS' (opF F) k (va_up st b (some t)) (t + 1) := fun i s hi => by
                        by_cases ei : i = b
                        · subst ei; rw [va_up_s] at hi; cases hi; exact ⟨hbN, c1, by omega⟩
                        · rw [va_up_n ei] at hi; exact hs i s hi
                      have e' : tkF F k pol hg W t f (va_up st b (some t)) = STF F k pol hg W (t + 1) := by
                        rw [← e]
                        show _ = tkS (opF F) (edg F) (wkN F) k (plR F pol hg) W t (f + 1) st
                        rw [tkS, if_pos q, hp]
                      refine jj_s (pc' := 248) rfl rfl ?_
                      refine jj_s (pc' := 250) rfl rfl ?_
                      refine jj_icmp_eq 131 rfl rfl (fun c2 => absurd c2 (enc_ne (b := b) (by omega))) (fun _ => ?_)
                      refine jj_lv (lv' := [some (.ref (B + m)), some (.int (nI W)), some (.int pol), some (.int (nI (cn (opn F st) k))), some (.int (nI (lst F k st))), some (.int (nI t)), some (.int (nI (cn (bsy (wkN F) st t) k))), some (.int (nI b)), some (.int (nI k)), z9]) rfl ?_
                      refine jj_s (pc' := 254) rfl rfl ?_
                      refine jj_g rfl rfl wM_o rfl ?_
                      refine jj_s (pc' := 259) rfl rfl ?_
                      refine jj_s (pc' := 261) rfl rfl ?_
                      refine jj_mst 20 rfl rfl (by decide) (by first | assumption | omega) ?_
                      refine jj_s (pc' := 263) rfl rfl ?_
                      refine jj_g rfl rfl wM_o rfl ?_
                      refine jj_s (pc' := 268) rfl rfl ?_
                      refine jj_s (pc' := 270) rfl rfl ?_
                      refine jj_s (pc' := 271) rfl rfl ?_
                      refine jj_s (pc' := 273) rfl rfl ?_
                      refine jj_s (pc' := 274) rfl rfl ?_
                      refine jj_v2 rfl rfl rfl wM_o rfl rfl (c9_of (a := 1) (by omega) (by decide)) ?_
                      rw [show ofW (uF A2 8 b (nI t) 0) b 1 = nI (wkN F b) by rw [uF_j _ _ _ _ (by decide)]; exact ew]
                      refine jj_s (pc' := 278) rfl rfl ?_
                      refine jj_mst (j := 9) (i := b) 20 rfl rfl (by decide) (by omega) ?_
                      refine jj_s (pc' := 280) rfl rfl ?_
                      refine jj_g rfl rfl wM_o rfl ?_
                      refine jj_s (pc' := 285) rfl rfl ?_
                      refine jj_mld 20 rfl rfl (by decide) (by first | assumption | omega) ?_
                      refine jj_s (pc' := 288) rfl rfl ?_
                      rw [uF_s]
                      refine jj_st (st' := [.int (nI (lst F k st)), .int (nI (t + wkN F b))]) (by rw [← nI_add]) ?_
                      have go : ∀ x, x = nI (lst F k (va_up st b (some t))) → JJ X0 G B M9_planned 303 [some (.ref (B + m)), some (.int (nI W)), some (.int pol), some (.int (nI (cn (opn F st) k))), some (.int (nI (lst F k st))), some (.int (nI t)), some (.int (nI (cn (bsy (wkN F) st t) k))), some (.int (nI b)), some (.int (nI k)), z9] [.int x] n' (wM B m (uF (uF A2 8 b (nI t)) 9 b (nI t + nI (wkN F b))) Wy V h) 0 0 (plQ B m n' k F (STF F k pol hg W tf) A Wy V h) := by
                        intro x hx
                        subst hx
                        refine jj_s (pc' := 305) rfl rfl ?_
                        first | refine jj_inc rfl rfl ?_ | refine jj_s (pc' := 308) rfl rfl ?_
                        refine jj_s (pc' := 311) rfl rfl ?_
                        refine jj_s (pc' := 131) rfl rfl ?_
                        have := ih4 (va_up st b (some t)) (uF (uF A2 8 b (nI t)) 9 b (nI t + nI (wkN F b))) (nI b) (some (.int (nI k))) z9 (enc_ne (by omega)) hok2 (va_up_PA hPA (by rw [nI_add])) (fun j h8 h9 => by rw [uF_j _ _ _ _ h9, uF_j _ _ _ _ h8]; exact hA2 j h8 h9) e' (by rw [eu]; omega)
                        rw [eu] at this
                        refine jj_lv ?_ this
                        have e1 : nI (cn (opn F st) k) + Int32.ofInt (-1) = nI (cn (opn F (va_up st b (some t))) k) := by
                          rw [hco, show Int32.ofInt (-1) = -1 from rfl, ← nI_pred (cn (opn F (va_up st b (some t))) k), Int32.sub_eq_add_neg]
                        rw [← e1]
                        rfl
                      have em := lst_up (F := F) (t := t) hbN c2
                      refine jj_icmp_le 301 rfl rfl (fun c4 => ?_) (fun c4 => ?_)
                      · have c4 := (nI_leI (by omega) (by omega)).mp c4
                        refine jj_s (pc' := 303) rfl rfl ?_
                        exact go _ (by rw [em, Nat.max_eq_left c4])
                      · have c4 : ¬ t + wkN F b ≤ lst F k st := fun z => c4 ((nI_leI (by omega) (by omega)).mpr z)
                        refine jj_s (pc' := 292) rfl rfl ?_
                        refine jj_g rfl rfl wM_o rfl ?_
                        refine jj_s (pc' := 297) rfl rfl ?_
                        refine jj_mld 20 rfl rfl (by decide) (by first | assumption | omega) ?_
                        refine jj_s (pc' := 303) rfl rfl ?_
                        rw [uF_s]
                        exact go _ (by rw [em, Nat.max_eq_right (by omega), nI_add])
                  · obtain ⟨k1, k2, k3, k4, k5, k6, k7⟩ := hm2.2.2.1 k ck
                    have no : (cdB (opF F) (edg F) (wkN F) N st t) k = false → JJ X0 G B M9_planned 200 [some (.ref (B + m)), some (.int (nI W)), some (.int pol), some (.int (nI (cn (opn F st) N))), some (.int (nI (lst F N st))), some (.int (nI t)), some (.int (nI (cn (bsy (wkN F) st t) N))), some (.int (enc (pkB (cdB (opF F) (edg F) (wkN F) N st t) (rkS (opF F) (edg F) (wkN F) N (plR F pol hg) st t) k))), some (.int (nI k)), z9] [] n' (wM B m A2 Wy V h) 0 0 (plQ B m n' N F (STF F N pol hg W tf) A Wy V h) := by
                      intro hno
                      refine jj_s (pc' := 201) rfl rfl ?_
                      refine jj_s (pc' := 203) rfl rfl ?_
                      refine jj_s (pc' := 205) rfl rfl ?_
                      refine jj_if_eq 240 rfl rfl (fun _ => ?_) (fun c3 => absurd rfl c3)
                      first | refine jj_inc rfl rfl ?_ | refine jj_s (pc' := 243) rfl rfl ?_
                      refine jj_s (pc' := 151) rfl rfl ?_
                      refine jj_lv ?_ (ih5 (k + 1) (some (.int 0)) (by omega) (by omega))
                      rw [pkB_skip hno]; rfl
                    refine jj_s (pc' := 163) rfl rfl ?_
                    refine jj_s (pc' := 165) rfl rfl ?_
                    refine jj_v1 rfl rfl rfl wM_o rfl rfl (c9_hasEnded (by omega)) ?_
                    rw [k3]
                    refine jj_zF 200 rfl rfl (fun c1 => no ?_) (fun c1 => ?_)
                    · unfold cdB; rw [show opF F k = false by unfold opF; rw [c1]; rfl]; rfl
                    · have c1 : opF F k = true := by unfold opF; rw [c1]; rfl
                      refine jj_s (pc' := 172) rfl rfl ?_
                      refine jj_g rfl rfl wM_o rfl ?_
                      refine jj_s (pc' := 177) rfl rfl ?_
                      refine jj_mld 20 rfl rfl (by decide) (by first | assumption | omega) ?_
                      refine jj_s (pc' := 180) rfl rfl ?_
                      rw [(hPA k ck).1]
                      cases hst : st k with
                      | some s =>
                        have hsk := hsb k s hst
                        refine jj_icmp_ne 200 rfl rfl (fun _ => no ?_) (fun c2 => absurd c2 (enc_ne (b := s) (by omega)))
                        unfold cdB; rw [hst]; simp
                      | none =>
                        refine jj_icmp_ne 200 rfl rfl (fun c2 => absurd rfl c2) (fun _ => ?_)
                        refine jj_s (pc' := 184) rfl rfl ?_
                        refine jj_s (pc' := 186) rfl rfl ?_
                        refine jj_s (pc' := 188) rfl rfl ?_
                        refine jj_v2 rfl rfl rfl wM_o rfl rfl (c9_possibleAt hN hm2 hw hPA hsb (by omega) ck) ?_
                        have hpb : psT (opF F) (edg F) (wkN F) N st k ≤ 2020 := mxN_le (fun p hp _ => by
                          have := (hw p hp).2
                          unfold enS
                          cases hsp : st p with
                          | none => simp; omega
                          | some s => have := hsb p s hsp; simp; omega)
                        cases hps : psB (opF F) (edg F) (wkN F) N st t k with
                        | false =>
                          rw [if_neg (by decide)]
                          refine jj_s (pc' := 193) rfl rfl ?_
                          refine jj_icmp_eq 200 rfl rfl (fun _ => no ?_) (fun c3 => absurd rfl c3)
                          unfold cdB; rw [hps]; simp
                        | true =>
                          have hc : (cdB (opF F) (edg F) (wkN F) N st t) k = true := by unfold cdB; rw [c1, hst, hps]; rfl
                          rw [if_pos rfl]
                          refine jj_s (pc' := 193) rfl rfl ?_
                          refine jj_icmp_eq 200 rfl rfl (fun c3 => absurd c3 (enc_ne (by omega))) (fun _ => ?_)
                          refine jj_s (pc' := 197) rfl rfl ?_
                          refine jj_s (pc' := 201) rfl rfl ?_
                          refine jj_s (pc' := 203) rfl rfl ?_
                          refine jj_s (pc' := 205) rfl rfl ?_
                          refine jj_if_eq 240 rfl rfl (fun c3 => absurd c3 (by decide)) (fun _ => ?_)
                          have h5 : ∀ i, i < N → A2 5 i = hg i := fun i hi => by rw [hA2 5 (by decide) (by decide), (hb1 i hi).1, hg0 i hi]
                          refine jj_s (pc' := 210) rfl rfl ?_
                          refine jj_s (pc' := 212) rfl rfl ?_
                          cases hp : pkB (cdB (opF F) (edg F) (wkN F) N st t) (rkS (opF F) (edg F) (wkN F) N (plR F pol hg) st t) k with
                          | none =>
                            refine jj_icmp_eq 236 rfl rfl (fun _ => ?_) (fun c3 => absurd rfl c3)
                            refine jj_s (pc' := 238) rfl rfl ?_
                            refine jj_s (pc' := 240) rfl rfl ?_
                            first | refine jj_inc rfl rfl ?_ | refine jj_s (pc' := 243) rfl rfl ?_
                            refine jj_s (pc' := 151) rfl rfl ?_
                            refine jj_lv ?_ (ih5 (k + 1) (some (.int 1)) (by omega) (by omega))
                            rw [pkB_none hp hc]; rfl
                          | some b =>
                            have hl := pkB_lt _ _ _ _ hp
                            obtain ⟨b1, b2, b3⟩ := cd_at hl.2
                            refine jj_icmp_eq 236 rfl rfl (fun c3 => absurd c3 (enc_ne (b := b) (by omega))) (fun _ => ?_)
                            refine jj_lv (lv' := [some (.ref (B + m)), some (.int (nI W)), some (.int pol), some (.int (nI (cn (opn F st) N))), some (.int (nI (lst F N st))), some (.int (nI t)), some (.int (nI (cn (bsy (wkN F) st t) N))), some (.int (nI b)), some (.int (nI k)), some (.int 1)]) rfl ?_
                            refine jj_s (pc' := 216) rfl rfl ?_
                            refine jj_s (pc' := 218) rfl rfl ?_
                            refine jj_s (pc' := 219) rfl rfl ?_
                            refine jj_s (pc' := 221) rfl rfl ?_
                            refine jj_v3 rfl rfl rfl wM_o rfl rfl (c9_planRank hN hm2 hw hPA hsb (by omega) ck (h5 k ck) hps) ?_
                            refine jj_s (pc' := 225) rfl rfl ?_
                            refine jj_s (pc' := 227) rfl rfl ?_
                            refine jj_s (pc' := 228) rfl rfl ?_
                            refine jj_s (pc' := 230) rfl rfl ?_
                            refine jj_v3 rfl rfl rfl wM_o rfl rfl (c9_planRank hN hm2 hw hPA hsb (by omega) (show b < N by omega) (h5 b (by omega)) b3) ?_
                            refine jj_icmp_le 240 rfl rfl (fun c4 => ?_) (fun c4 => ?_)
                            · first | refine jj_inc rfl rfl ?_ | refine jj_s (pc' := 243) rfl rfl ?_
                              refine jj_s (pc' := 151) rfl rfl ?_
                              refine jj_lv ?_ (ih5 (k + 1) (some (.int 1)) (by omega) (by omega))
                              rw [pkB_lose hp (Int32.not_lt.mpr c4)]; rfl
                            · refine jj_s (pc' := 238) rfl rfl ?_
                              refine jj_s (pc' := 240) rfl rfl ?_
                              first | refine jj_inc rfl rfl ?_ | refine jj_s (pc' := 243) rfl rfl ?_
                              refine jj_s (pc' := 151) rfl rfl ?_
                              refine jj_lv ?_ (ih5 (k + 1) (some (.int 1)) (by omega) (by omega))
                              rw [pkB_win hp hc (Int32.not_le.mp c4)]; rfl
              exact L5 (N + 1) 0 _ (by omega) (by omega)
        refine jj_s (pc' := 72) rfl rfl ?_
        refine jj_s (pc' := 74) rfl rfl ?_
        refine jj_s (pc' := 75) rfl rfl ?_
        refine jj_s (pc' := 77) rfl rfl ?_
        have L3 : ∀ e k, k ≤ N → N + 1 ≤ k + e → JJ X0 G B M9_planned 77 [some (.ref (B + m)), some (.int (nI W)), some (.int pol), some (.int (nI (cn (opn F (STF F N pol hg W t)) N))), some (.int (nI (lst F N (STF F N pol hg W t)))), some (.int (nI t)), some (.int (nI (cn (bsy (wkN F) (STF F N pol hg W t) t) k))), some (.int (nI k)), z8, z9] [] n' (wM B m A2 Wy V h) 0 0 (plQ B m n' N F (STF F N pol hg W tf) A Wy V h) := by
          intro e
          induction e with
          | zero => intro k g1 g2; exact absurd g2 (by omega)
          | succ e ih3 =>
            intro k g1 g2
            refine jj_s (pc' := 79) rfl rfl ?_
            refine jj_s (pc' := 80) rfl rfl ?_
            refine jj_g rfl rfl wM_o rfl ?_
            refine jj_s (pc' := 84) rfl rfl ?_
            refine jj_m0 hw0 rfl ?_
            refine jj_geN 128 rfl rfl (by omega) (by omega) (fun ck => ?_) (fun ck => ?_)
            · have hkN : k = N := by omega
              subst hkN
              refine jj_s (pc' := 129) rfl rfl ?_
              refine jj_s (pc' := 131) rfl rfl ?_
              exact L4 6 (STF F k pol hg W t) A2 0 _ _ (by decide) (fun i s hi => by have := hok t i s hi; exact ⟨this.1, this.2.1, by omega⟩) hPA hA2 rfl (by omega)
            · have no : bsy (wkN F) (STF F N pol hg W t) t k = false → JJ X0 G B M9_planned 118 [some (.ref (B + m)), some (.int (nI W)), some (.int pol), some (.int (nI (cn (opn F (STF F N pol hg W t)) N))), some (.int (nI (lst F N (STF F N pol hg W t)))), some (.int (nI t)), some (.int (nI (cn (bsy (wkN F) (STF F N pol hg W t) t) k))), some (.int (nI k)), z8, z9] [.int (nI (cn (bsy (wkN F) (STF F N pol hg W t) t) k))] n' (wM B m A2 Wy V h) 0 0 (plQ B m n' N F (STF F N pol hg W tf) A Wy V h) := by
                intro hno
                refine jj_s (pc' := 119) rfl rfl ?_
                refine jj_s (pc' := 120) rfl rfl ?_
                refine jj_s (pc' := 122) rfl rfl ?_
                first | refine jj_inc rfl rfl ?_ | refine jj_s (pc' := 125) rfl rfl ?_
                refine jj_s (pc' := 77) rfl rfl ?_
                refine jj_lv ?_ (ih3 (k + 1) (by omega) (by omega))
                have e1 : nI (cn (bsy (wkN F) (STF F N pol hg W t) t) k) + 0 = nI (cn (bsy (wkN F) (STF F N pol hg W t) t) (k + 1)) := by
                  rw [cn, if_neg (by rw [hno]; decide), Nat.add_zero, Int32.add_zero]
                rw [← e1]; rfl
              refine jj_s (pc' := 90) rfl rfl ?_
              refine jj_s (pc' := 91) rfl rfl ?_
              refine jj_g rfl rfl wM_o rfl ?_
              refine jj_s (pc' := 96) rfl rfl ?_
              refine jj_mld 20 rfl rfl (by decide) (by first | assumption | omega) ?_
              refine jj_s (pc' := 99) rfl rfl ?_
              rw [(hPA k ck).2]
              cases hst : STF F N pol hg W t k with
              | none =>
                refine jj_icmp_eq 118 rfl rfl (fun _ => no ?_) (fun c3 => absurd rfl c3)
                unfold bsy; rw [hst]
              | some s =>
                have hsk := (hok t k s hst).2.2
                have hwk := (hw k ck).2
                have e9 : A2 9 k = nI (s + wkN F k) := by rw [(hPA k ck).2, hst]; rfl
                refine jj_icmp_eq 118 rfl rfl (fun c3 => absurd c3 (enc_ne (b := s + wkN F k) (by omega))) (fun _ => ?_)
                refine jj_s (pc' := 103) rfl rfl ?_
                refine jj_g rfl rfl wM_o rfl ?_
                refine jj_s (pc' := 108) rfl rfl ?_
                refine jj_mld 20 rfl rfl (by decide) (by first | assumption | omega) ?_
                refine jj_s (pc' := 111) rfl rfl ?_
                rw [e9]
                refine jj_icmp_le 118 rfl rfl (fun c3 => no ?_) (fun c3 => ?_)
                · have c3 := (nI_leI (by omega) (by omega)).mp c3
                  unfold bsy; rw [hst]; exact decide_eq_false (by omega)
                · have c3 : ¬ s + wkN F k ≤ t := fun z => c3 ((nI_leI (by omega) (by omega)).mpr z)
                  have hbk : bsy (wkN F) (STF F N pol hg W t) t k = true := by unfold bsy; rw [hst]; exact decide_eq_true (by omega)
                  refine jj_s (pc' := 115) rfl rfl ?_
                  refine jj_s (pc' := 119) rfl rfl ?_
                  refine jj_s (pc' := 120) rfl rfl ?_
                  refine jj_s (pc' := 122) rfl rfl ?_
                  first | refine jj_inc rfl rfl ?_ | refine jj_s (pc' := 125) rfl rfl ?_
                  refine jj_s (pc' := 77) rfl rfl ?_
                  refine jj_lv ?_ (ih3 (k + 1) (by omega) (by omega))
                  have e1 : nI (cn (bsy (wkN F) (STF F N pol hg W t) t) k) + 1 = nI (cn (bsy (wkN F) (STF F N pol hg W t) t) (k + 1)) := by
                    rw [cn, if_pos hbk, nI_1]
                  rw [← e1]; rfl
        exact L3 (N + 1) 0 (by omega) (by omega)
  refine jj_s (pc' := 5) rfl rfl ?_
  refine jj_s (pc' := 6) rfl rfl ?_
  refine jj_s (pc' := 7) rfl rfl ?_
  refine jj_s (pc' := 9) rfl rfl ?_
  have L1 : ∀ d k (A2 : Nat → Nat → Int32), k ≤ N → N + 1 ≤ k + d → (∀ i, i < k → A2 8 i = -7 ∧ A2 9 i = -7) → (∀ j, j ≠ 8 → j ≠ 9 → A2 j = A1 j) → JJ X0 G B M9_planned 9 [some (.ref (B + m)), some (.int (nI W)), some (.int pol), some (.int (nI (cn (opF F) k))), some (.int (nI k)), none, none, none, none, none] [] n' (wM B m A2 Wy V h) 0 0 (plQ B m n' N F (STF F N pol hg W tf) A Wy V h) := by
    intro d
    induction d with
    | zero => intro k A2 g1 g2; exact absurd g2 (by omega)
    | succ d ih =>
      intro k A2 g1 g2 hI hA2
      have hm2 : MW N S F (A2 0) := by rw [hA2 0 (by decide) (by decide), hA1 0 (by decide) (by decide)]; exact hm
      have hw0 := hm2.1
      refine jj_s (pc' := 11) rfl rfl ?_
      refine jj_s (pc' := 12) rfl rfl ?_
      refine jj_g rfl rfl wM_o rfl ?_
      refine jj_s (pc' := 16) rfl rfl ?_
      refine jj_m0 hw0 rfl ?_
      refine jj_geN 61 rfl rfl (by omega) (by omega) (fun ck => ?_) (fun ck => ?_)
      · have hkN : k = N := by omega
        subst hkN
        refine jj_s (pc' := 62) rfl rfl ?_
        refine jj_s (pc' := 64) rfl rfl ?_
        refine jj_s (pc' := 65) rfl rfl ?_
        refine jj_s (pc' := 67) rfl rfl ?_
        have := L2 (tf + 1) 0 A2 none none none none (by omega) (by omega) hI hA2
        refine jj_lv ?_ this
        have e1 : cn (opn F (STF F k pol hg W 0)) k = cn (opF F) k := cn_cong (fun i _ => by
          show (opF F i && true) = _
          rw [Bool.and_true])
        have e2 : lst F k (STF F k pol hg W 0) = 0 := Nat.le_zero.mp (mxN_le (fun i _ hp => by cases hp))
        rw [e1, e2]
        rfl
      · refine jj_s (pc' := 21) rfl rfl ?_
        refine jj_g rfl rfl wM_o rfl ?_
        refine jj_s (pc' := 26) rfl rfl ?_
        refine jj_s (pc' := 28) rfl rfl ?_
        refine jj_mst 20 rfl rfl (by decide) (by first | assumption | omega) ?_
        refine jj_s (pc' := 30) rfl rfl ?_
        refine jj_g rfl rfl wM_o rfl ?_
        refine jj_s (pc' := 35) rfl rfl ?_
        refine jj_s (pc' := 37) rfl rfl ?_
        refine jj_mst 20 rfl rfl (by decide) (by first | assumption | omega) ?_
        refine jj_s (pc' := 39) rfl rfl ?_
        refine jj_s (pc' := 40) rfl rfl ?_
        refine jj_s (pc' := 42) rfl rfl ?_
        refine jj_h (h' := wM B m (uF (uF A2 8 k (-7)) 9 k (-7)) Wy V h) rfl ?_
        refine jj_v1 rfl rfl rfl wM_o rfl rfl (c9_hasEnded (by omega)) ?_
        rw [show ofW (uF (uF A2 8 k (-7)) 9 k (-7) 0) k 8 = F 5 k by rw [uF_j _ _ _ _ (by decide), uF_j _ _ _ _ (by decide)]; exact (hm2.2.2.1 k ck).2.2.1]
        have nx := ih (k + 1) (uF (uF A2 8 k (-7)) 9 k (-7)) (by omega) (by omega) (fun i hi => by
          by_cases ei : i = k
          · subst ei; rw [uF_j _ _ _ _ (by decide), uF_s, uF_s]; exact ⟨rfl, rfl⟩
          · rw [uF_i _ _ _ _ ei, uF_i _ _ _ _ ei, uF_i _ _ _ _ ei, uF_i _ _ _ _ ei]; exact hI i (by omega)) (fun j h8 h9 => by rw [uF_j _ _ _ _ h9, uF_j _ _ _ _ h8]; exact hA2 j h8 h9)
        refine jj_zT 52 rfl rfl (fun c3 => ?_) (fun c3 => ?_)
        · refine jj_s (pc' := 53) rfl rfl ?_
          refine jj_s (pc' := 54) rfl rfl ?_
          refine jj_s (pc' := 55) rfl rfl ?_
          first | refine jj_inc rfl rfl ?_ | refine jj_s (pc' := 58) rfl rfl ?_
          refine jj_s (pc' := 9) rfl rfl ?_
          refine jj_lv ?_ nx
          have e1 : nI (cn (opF F) k) + 1 = nI (cn (opF F) (k + 1)) := by
            rw [cn, if_pos (by unfold opF; rw [c3]; rfl), nI_1]
          rw [← e1]; rfl
        · refine jj_s (pc' := 49) rfl rfl ?_
          refine jj_s (pc' := 53) rfl rfl ?_
          refine jj_s (pc' := 54) rfl rfl ?_
          refine jj_s (pc' := 55) rfl rfl ?_
          first | refine jj_inc rfl rfl ?_ | refine jj_s (pc' := 58) rfl rfl ?_
          refine jj_s (pc' := 9) rfl rfl ?_
          refine jj_lv ?_ nx
          have e1 : nI (cn (opF F) k) + 0 = nI (cn (opF F) (k + 1)) := by
            rw [cn, if_neg (by unfold opF; rw [c3]; decide), Nat.add_zero, Int32.add_zero]
          rw [← e1]; rfl
  exact L1 (N + 1) 0 A1 (by omega) (by omega) (fun i hi => absurd hi (by omega)) (fun j _ _ => rfl)

/-! planLength, planStart, bestWorkers of the reference -/
def PlH (F : Nat → Nat → Int32) (N : Nat) (pol : Int32) (hg : Nat → Int32) (W tf : Nat) : Prop := tf ≤ 1001 ∧ ∀ i, i < N → opF F i = true → STF F N pol hg W tf i ≠ none
theorem wth16 {x : Int32} (h : wth x 1 6 = true) : ∃ W, 1 ≤ W ∧ W ≤ 6 ∧ x = nI W := by
  have h := of_decide_eq_true h
  obtain ⟨j, hj, rfl⟩ := nI_of (x := x) (fun q => absurd (Int32.lt_of_lt_of_le q (by decide : (0 : Int32) ≤ 1)) (Int32.not_lt.mpr h.1))
  exact ⟨j, (nI_leI (a := 1) (b := j) (by omega) hj).mp h.1, (nI_leI (a := j) (b := 6) hj (by omega)).mp h.2, rfl⟩
set_option maxHeartbeats 4000000 in
set_option maxRecDepth 100000 in
 theorem m_planLength {G : GC} {B n m N : Nat} {S : Nat → Int32} {F : Nat → Nat → Int32} {L : Nat} {pt : Nat → Int32} {len : Nat} {C : Nat → Int32} {sv : Nat → Option (Nat × (Nat → Int32) × (Nat → Nat → Int32))} {h : HT} (hN : N ≤ 20) (hM : ML B m N S F L pt len C sv h) (hG : Gr N F) (hw1 : ∀ i, i < N → opF F i = true → 1 ≤ wkN F i) (x p v : Int32) (hv : ∀ W, 1 ≤ W → W ≤ 6 → x = nI W → wth p 0 2 = true → ∃ tf, PlH F N p (fun i => nI (hgN F N i)) W tf ∧ v = nI (mxN (opF F) (enS (wkN F) (STF F N p (fun i => nI (hgN F N i)) W tf)) N)) : CtJ G B M9_planLength [.ref (B + m), .int x, .int p] n h 0 0 (fun r2 n2 h2 => r2 = some (.int (zPln x p v)) ∧ n2 = n ∧ ML B m N S F L pt len C sv h2 ∧ tk m h h2) := by
  obtain ⟨⟨rk, hr, hk⟩, hw, hB⟩ := hG
  obtain ⟨A, Wy, V, hh, ha⟩ := hM
  have hw0 := ha.1.1
  have fin0 : ML B m N S F L pt len C sv (wM B m A Wy V h) ∧ tk m h (wM B m A Wy V h) := MLa.fin ha
  unfold CtJ
  refine jj_lv (lv' := [some (.ref (B + m)), some (.int x), some (.int p)]) rfl ?_
  refine jj_h hh ?_
  have bad : (wth x 1 6 && wth p 0 2) = false → JJ X0 G B M9_planLength 19 [some (.ref (B + m)), some (.int x), some (.int p)] [] n (wM B m A Wy V h) 0 0 (fun r2 n2 h2 => r2 = some (.int (zPln x p v)) ∧ n2 = n ∧ ML B m N S F L pt len C sv h2 ∧ tk m h h2) := by
    intro hb
    refine jj_s (pc' := 21) rfl rfl ?_
    exact jj_iret rfl rfl ⟨by rw [zPln, if_neg (by rw [hb]; decide)]; rfl, rfl, fin0⟩
  refine jj_s (pc' := 1) rfl rfl ?_
  refine jj_s (pc' := 2) rfl rfl ?_
  refine jj_s (pc' := 4) rfl rfl ?_
  refine jj_t3 rfl rfl rfl rfl rfl (c9_isIn x 1 6) ?_
  refine jj_zT 19 rfl rfl (fun c1 => bad (by rw [c1]; rfl)) (fun c1 => ?_)
  refine jj_s (pc' := 11) rfl rfl ?_
  refine jj_s (pc' := 12) rfl rfl ?_
  refine jj_s (pc' := 13) rfl rfl ?_
  refine jj_t3 rfl rfl rfl rfl rfl (c9_isIn p 0 2) ?_
  refine jj_zF 22 rfl rfl (fun c2 => ?_) (fun c2 => bad (by rw [c2]; simp))
  obtain ⟨W, w1, w6, rfl⟩ := wth16 c1
  obtain ⟨tf, ⟨ht, hall⟩, hv⟩ := hv W w1 w6 rfl c2
  refine jj_s (pc' := 23) rfl rfl ?_
  refine jj_s (pc' := 24) rfl rfl ?_
  refine jj_s (pc' := 25) rfl rfl ?_
  refine jj_vp2 rfl rfl rfl wM_o rfl rfl (c9_planned hN ha.1 hr hk hw hw1 w6 ht (fun _ _ => rfl) hall) (fun r n' h' q => ?_)
  obtain ⟨rfl, rfl, A', rfl, hA, hb⟩ := q
  exact jj_iret rfl rfl ⟨by rw [zPln, if_pos (by rw [c1, c2]; rfl), hv], rfl, MLa.fin (ha.sc hA)⟩
set_option maxHeartbeats 4000000 in
set_option maxRecDepth 100000 in
 theorem m_planStart {G : GC} {B n m N : Nat} {S : Nat → Int32} {F : Nat → Nat → Int32} {L : Nat} {pt : Nat → Int32} {len : Nat} {C : Nat → Int32} {sv : Nat → Option (Nat × (Nat → Int32) × (Nat → Nat → Int32))} {h : HT} (hN : N ≤ 20) (hM : ML B m N S F L pt len C sv h) (hG : Gr N F) (hw1 : ∀ i, i < N → opF F i = true → 1 ≤ wkN F i) (x y p v : Int32) (hv : ∀ W i, 1 ≤ W → W ≤ 6 → y = nI W → wth p 0 2 = true → i < N → x = nI i → ∃ tf, PlH F N p (fun i => nI (hgN F N i)) W tf ∧ (opF F i = true → v = enc (STF F N p (fun i => nI (hgN F N i)) W tf i))) : CtJ G B M9_planStart [.ref (B + m), .int x, .int y, .int p] n h 0 0 (fun r2 n2 h2 => r2 = some (.int (zPlS N F x y p v)) ∧ n2 = n ∧ ML B m N S F L pt len C sv h2 ∧ tk m h h2) := by
  obtain ⟨⟨rk, hr, hk⟩, hw, hB⟩ := hG
  obtain ⟨A, Wy, V, hh, ha⟩ := hM
  have hw0 := ha.1.1
  have fin0 : ML B m N S F L pt len C sv (wM B m A Wy V h) ∧ tk m h (wM B m A Wy V h) := MLa.fin ha
  unfold CtJ
  refine jj_lv (lv' := [some (.ref (B + m)), some (.int x), some (.int y), some (.int p), none]) rfl ?_
  refine jj_h hh ?_
  have bad : isN N x = true → (wth y 1 6 && wth p 0 2) = false → JJ X0 G B M9_planStart 29 [some (.ref (B + m)), some (.int x), some (.int y), some (.int p), none] [] n (wM B m A Wy V h) 0 0 (fun r2 n2 h2 => r2 = some (.int (zPlS N F x y p v)) ∧ n2 = n ∧ ML B m N S F L pt len C sv h2 ∧ tk m h h2) := by
    intro c0 hb
    refine jj_s (pc' := 31) rfl rfl ?_
    exact jj_iret rfl rfl ⟨by rw [zPlS, if_pos c0, if_neg (by rw [hb]; decide)]; rfl, rfl, fin0⟩
  refine jj_s (pc' := 1) rfl rfl ?_
  refine jj_s (pc' := 2) rfl rfl ?_
  refine jj_v1 rfl rfl rfl wM_o rfl rfl (c9_isItem hN hw0 _) ?_
  refine jj_zF 10 rfl rfl (fun c0 => ?_) (fun c0 => ?_)
  · refine jj_s (pc' := 11) rfl rfl ?_
    refine jj_s (pc' := 12) rfl rfl ?_
    refine jj_s (pc' := 14) rfl rfl ?_
    refine jj_t3 rfl rfl rfl rfl rfl (c9_isIn y 1 6) ?_
    refine jj_zT 29 rfl rfl (fun c1 => bad c0 (by rw [c1]; rfl)) (fun c1 => ?_)
    refine jj_s (pc' := 21) rfl rfl ?_
    refine jj_s (pc' := 22) rfl rfl ?_
    refine jj_s (pc' := 23) rfl rfl ?_
    refine jj_t3 rfl rfl rfl rfl rfl (c9_isIn p 0 2) ?_
    refine jj_zF 32 rfl rfl (fun c2 => ?_) (fun c2 => bad c0 (by rw [c2]; simp))
    obtain ⟨W, w1, w6, rfl⟩ := wth16 c1
    obtain ⟨i, hi, rfl⟩ := isN_of hN c0
    obtain ⟨tf, ⟨ht, hall⟩, hv⟩ := hv W i w1 w6 rfl c2 hi rfl
    refine jj_s (pc' := 33) rfl rfl ?_
    refine jj_s (pc' := 34) rfl rfl ?_
    refine jj_s (pc' := 35) rfl rfl ?_
    refine jj_vp2 rfl rfl rfl wM_o rfl rfl (c9_planned hN ha.1 hr hk hw hw1 w6 ht (fun _ _ => rfl) hall) (fun r n' h' q => ?_)
    obtain ⟨rfl, rfl, A', rfl, hA, hb⟩ := q
    refine jj_s (pc' := 40) rfl rfl ?_
    refine jj_s (pc' := 41) rfl rfl ?_
    refine jj_g rfl rfl wM_o rfl ?_
    refine jj_s (pc' := 45) rfl rfl ?_
    refine jj_mld 20 rfl rfl (by decide) (by first | assumption | omega) ?_
    refine jj_iret rfl rfl ⟨?_, rfl, MLa.fin (ha.sc hA)⟩
    rw [hb i hi, zPlS, if_pos c0, if_pos (by rw [c1, c2]; rfl), ix_nI (by omega)]
    by_cases h3 : 3 ≤ F 5 i
    · rw [if_pos h3]
      cases hs : STF F N p (fun i => nI (hgN F N i)) W tf i with
      | none => rfl
      | some s =>
        have := (ST_ok (op := opF F) (E := edg F) (w := wkN F) (R := plR F p (fun i => nI (hgN F N i))) (W := W) hw1 tf i s hs).2.1
        exact absurd h3 (opF_t.mp this)
    · rw [if_neg h3, hv (opF_t.mpr h3)]
  · refine jj_s (pc' := 9) rfl rfl ?_
    exact jj_iret rfl rfl ⟨by rw [zPlS, if_neg (by rw [c0]; decide)]; rfl, rfl, fin0⟩
set_option maxHeartbeats 4000000 in
set_option maxRecDepth 100000 in
 theorem m_bestWorkers {G : GC} {B n m N : Nat} {S : Nat → Int32} {F : Nat → Nat → Int32} {L : Nat} {pt : Nat → Int32} {len : Nat} {C : Nat → Int32} {sv : Nat → Option (Nat × (Nat → Int32) × (Nat → Nat → Int32))} {h : HT} (hN : N ≤ 20) (hM : ML B m N S F L pt len C sv h) (hG : Gr N F) (hw1 : ∀ i, i < N → opF F i = true → 1 ≤ wkN F i) (p : Int32) (pl : Nat → Int32) (hv : ∀ W, 1 ≤ W → W ≤ 6 → wth p 0 2 = true → ∃ tf, PlH F N p (fun i => nI (hgN F N i)) W tf ∧ pl W = nI (mxN (opF F) (enS (wkN F) (STF F N p (fun i => nI (hgN F N i)) W tf)) N)) : CtJ G B M9_bestWorkers [.ref (B + m), .int p] n h 0 0 (fun r2 n2 h2 => r2 = some (.int (if wth p 0 2 = true then (bwK pl 5).1 else -2)) ∧ n2 = n ∧ ML B m N S F L pt len C sv h2 ∧ tk m h h2) := by
  obtain ⟨⟨rk, hr, hk⟩, hw, hB⟩ := hG
  obtain ⟨A, Wy, V, hh, ha⟩ := hM
  have hw0 := ha.1.1
  have fin0 : ML B m N S F L pt len C sv (wM B m A Wy V h) ∧ tk m h (wM B m A Wy V h) := MLa.fin ha
  unfold CtJ
  refine jj_lv (lv' := [some (.ref (B + m)), some (.int p), none, none, none, none]) rfl ?_
  refine jj_h hh ?_
  refine jj_s (pc' := 1) rfl rfl ?_
  refine jj_s (pc' := 2) rfl rfl ?_
  refine jj_s (pc' := 3) rfl rfl ?_
  refine jj_t3 rfl rfl rfl rfl rfl (c9_isIn p 0 2) ?_
  refine jj_zF 12 rfl rfl (fun c1 => ?_) (fun c1 => ?_)
  · rw [if_pos c1]
    obtain ⟨tf, ⟨ht, hall⟩, hv1⟩ := hv 1 (by omega) (by omega) c1
    refine jj_s (pc' := 13) rfl rfl ?_
    refine jj_s (pc' := 14) rfl rfl ?_
    refine jj_s (pc' := 15) rfl rfl ?_
    refine jj_s (pc' := 16) rfl rfl ?_
    refine jj_s (pc' := 17) rfl rfl ?_
    refine jj_vp2 rfl rfl rfl wM_o rfl rfl (c9_planned (W := 1) hN ha.1 hr hk hw hw1 (by omega) ht (fun _ _ => rfl) hall) (fun r n' h' q => ?_)
    obtain ⟨rfl, rfl, A', rfl, hA, hb⟩ := q
    refine jj_s (pc' := 21) rfl rfl ?_
    refine jj_s (pc' := 22) rfl rfl ?_
    refine jj_s (pc' := 24) rfl rfl ?_
    have L1 : ∀ d k (A' : Nat → Nat → Int32) z5, k + d = 5 → (∀ j, j < 4 → A' j = A j) → JJ X0 G B M9_bestWorkers 24 [some (.ref (B + m)), some (.int p), some (.int (bwK pl k).1), some (.int (bwK pl k).2), some (.int (nI (k + 2))), z5] [] n' (wM B m A' Wy V h) 0 0 (fun r2 n2 h2 => r2 = some (.int ((bwK pl 5).1)) ∧ n2 = n' ∧ ML B m N S F L pt len C sv h2 ∧ tk m h h2) := by
      intro d
      induction d with
      | zero =>
        intro k A' z5 hk hA
        have hk : k = 5 := by omega
        subst hk
        refine jj_s (pc' := 26) rfl rfl ?_
        refine jj_s (pc' := 28) rfl rfl ?_
        refine jj_icmp_gt 58 rfl rfl (fun c => ?_) (fun c => absurd (by decide) c)
        refine jj_s (pc' := 59) rfl rfl ?_
        exact jj_iret rfl rfl ⟨rfl, rfl, MLa.fin (ha.sc hA)⟩
      | succ d ih =>
        intro k A' z5 hk5 hA
        have ha' := ha.sc hA
        obtain ⟨tf, ⟨ht, hall⟩, hv2⟩ := hv (k + 2) (by omega) (by omega) c1
        refine jj_s (pc' := 26) rfl rfl ?_
        refine jj_s (pc' := 28) rfl rfl ?_
        refine jj_icmp_gt 58 rfl rfl (fun c => absurd ((nI_ltI (a := 6) (b := k + 2) (by omega) (by omega)).mp c) (by omega)) (fun c => ?_)
        refine jj_s (pc' := 32) rfl rfl ?_
        refine jj_s (pc' := 34) rfl rfl ?_
        refine jj_s (pc' := 35) rfl rfl ?_
        refine jj_vp2 rfl rfl rfl wM_o rfl rfl (c9_planned (W := k + 2) hN ha'.1 hr hk hw hw1 (by omega) ht (fun _ _ => rfl) hall) (fun r n2 h' q => ?_)
        obtain ⟨rfl, rfl, A2, rfl, hA2, hb2⟩ := q
        rw [← hv2]
        refine jj_s (pc' := 40) rfl rfl ?_
        refine jj_s (pc' := 42) rfl rfl ?_
        refine jj_s (pc' := 43) rfl rfl ?_
        refine jj_icmp_ge 52 rfl rfl (fun c2 => ?_) (fun c2 => ?_)
        · have e : bwK pl (k + 1) = bwK pl k := by rw [bwK, if_neg (Int32.not_lt.mpr c2)]
          first | refine jj_inc rfl rfl ?_ | refine jj_s (pc' := 55) rfl rfl ?_
          refine jj_s (pc' := 24) rfl rfl ?_
          refine jj_lv ?_ (ih (k + 1) A2 (some (.int (pl (k + 2)))) (by omega) (fun j hj => (hA2 j hj).trans (hA j hj)))
          rw [e]; rfl
        · have e : bwK pl (k + 1) = (nI (k + 2), pl (k + 2)) := by rw [bwK, if_pos (Int32.not_le.mp c2)]
          refine jj_s (pc' := 48) rfl rfl ?_
          refine jj_s (pc' := 49) rfl rfl ?_
          refine jj_s (pc' := 51) rfl rfl ?_
          refine jj_s (pc' := 52) rfl rfl ?_
          first | refine jj_inc rfl rfl ?_ | refine jj_s (pc' := 55) rfl rfl ?_
          refine jj_s (pc' := 24) rfl rfl ?_
          refine jj_lv ?_ (ih (k + 1) A2 (some (.int (pl (k + 2)))) (by omega) (fun j hj => (hA2 j hj).trans (hA j hj)))
          rw [e]; rfl
    refine jj_lv ?_ (L1 5 0 A' none (by omega) hA)
    rw [show bwK pl 0 = (1, pl 1) from rfl, hv1]; rfl
  · rw [if_neg (by rw [c1]; decide)]
    refine jj_s (pc' := 11) rfl rfl ?_
    exact jj_iret rfl rfl ⟨rfl, rfl, fin0⟩
