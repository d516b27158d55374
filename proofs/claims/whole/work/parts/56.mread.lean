/-! one item of the text -/
def DA (N : Nat) (F : Nat → Nat → Int32) (A : Nat → Nat → Int32) : Prop := ∀ i, i < N → A 15 i = F 0 i ∧ A 16 i = F 1 i ∧ ∀ p, p < 20 → A 17 (20 * p + i) = kd F p i
def rdQ (B m n N : Nat) (F : Nat → Nat → Int32) (len : Nat) (C : Nat → Int32) (a : Nat) (A : Nat → Nat → Int32) (Wy : Nat → Int64) (V : Nat → Int32) (h : HT) : Option Value → Nat → HT → Prop := fun r2 n2 h2 => r2 = none ∧ n2 = n ∧ ∃ A' V', h2 = wM B m A' Wy V' h ∧ (∀ j, j ≠ 15 → j ≠ 16 → j ≠ 17 → A' j = A j) ∧ (∀ j, j ≠ 20 → j ≠ 21 → j ≠ 25 → V' j = V j) ∧ V' 21 = (rI C len N F a).1 ∧ ((rI C len N F a).1 = -7 → V' 20 = nI (rI C len N F a).2.2.2 ∧ V' 25 = nI (N + 1) ∧ (rI C len N F a).2.1 = N + 1 ∧ DA (N + 1) (rI C len N F a).2.2.1 A')
theorem ix20 (k N : Nat) : (Int8.ofInt 20).toInt32 * nI k + nI N = nI (20 * k + N) := by
  rw [show (Int8.ofInt 20).toInt32 = nI 20 from rfl, pk_mul, nI_add]
theorem kd_z {F : Nat → Nat → Int32} {i p : Nat} (h11 : F 11 i = 0) (h12 : F 12 i = 0) : kd F p i = 0 := by
  unfold kd
  rw [h11, h12, b_0]; rfl
theorem kd_gt {F : Nat → Nat → Int32} {i p : Nat} : kd F p i ≤ 0 ↔ bt (prd F i) p = false := by
  rw [bt_prd]
  unfold kd
  cases bt (F 11 i) p <;> cases bt (F 12 i) p <;> decide
section
variable {G : GC} {B n m : Nat} {A : Nat → Nat → Int32} {Wy : Nat → Int64} {V : Nat → Int32} {h : HT} {N len a : Nat} {C : Nat → Int32} {F : Nat → Nat → Int32}
set_option maxHeartbeats 4000000 in
set_option maxRecDepth 100000 in
 theorem rd_366 {A2 : Nat → Nat → Int32} {V2 : Nat → Int32} {z1 z2 z3 : Option Value} (k1 : (∀ j, j ≠ 15 → j ≠ 16 → j ≠ 17 → A2 j = A j)) (k2 : (∀ j, j ≠ 20 → j ≠ 21 → j ≠ 25 → V2 j = V j)) (hr : V2 21 = (rI C len N F a).1) (hk : (rI C len N F a).1 = -7 → V2 20 + 1 = nI (rI C len N F a).2.2.2 ∧ V2 25 = nI N ∧ (rI C len N F a).2.1 = N + 1 ∧ DA (N + 1) (rI C len N F a).2.2.1 A2) : JJ X0 G B M9_readItem 366 [some (.ref (B + m)), z1, z2, z3] [] n (wM B m A2 Wy V2 h) 0 0 (rdQ B m n N F len C a A Wy V h) := by
  refine jj_s (pc' := 367) rfl rfl ?_
  refine jj_s (pc' := 368) rfl rfl ?_
  refine jj_g rfl rfl wM_o rfl ?_
  refine jj_s (pc' := 372) rfl rfl ?_
  refine jj_s (pc' := 373) rfl rfl ?_
  refine jj_mpt rfl rfl rfl rfl rfl rfl ?_
  refine jj_s (pc' := 377) rfl rfl ?_
  refine jj_s (pc' := 378) rfl rfl ?_
  refine jj_g rfl rfl wM_o rfl ?_
  refine jj_s (pc' := 382) rfl rfl ?_
  refine jj_s (pc' := 383) rfl rfl ?_
  refine jj_mpt rfl rfl rfl rfl rfl rfl ?_
  refine jj_vret rfl rfl ⟨rfl, rfl, A2, _, rfl, k1, fun j h1 h2 h3 => ?_, ?_, fun q => ?_⟩
  · rw [upd_n h3, upd_n h1]; exact k2 j h1 h2 h3
  · rw [upd_n (by decide), upd_n (by decide)]; exact hr
  · obtain ⟨q1, q2, q3, q4⟩ := hk q
    refine ⟨?_, ?_, q3, q4⟩
    · rw [upd_n (by decide), pk_us, ← q1]; rfl
    · rw [pk_us, upd_n (by decide), q2]; exact nI_1 N
set_option maxHeartbeats 4000000 in
set_option maxRecDepth 100000 in
 theorem rd_170 {A2 : Nat → Nat → Int32} {V2 : Nat → Int32} {z1 z2 z3 : Option Value} (k1 : (∀ j, j ≠ 15 → j ≠ 16 → j ≠ 17 → A2 j = A j)) (k2 : (∀ j, j ≠ 20 → j ≠ 21 → j ≠ 25 → V2 j = V j)) (hr : V2 21 = (rI C len N F a).1) (hn : ¬ (rI C len N F a).1 = -7) : JJ X0 G B M9_readItem 170 [some (.ref (B + m)), z1, z2, z3] [] n (wM B m A2 Wy V2 h) 0 0 (rdQ B m n N F len C a A Wy V h) := by
  have hn2 : ¬ V2 21 = -7 := fun q => hn (hr.symm.trans q)
  refine jj_s (pc' := 171) rfl rfl ?_
  refine jj_g rfl rfl wM_o rfl ?_
  refine jj_s (pc' := 176) rfl rfl ?_
  refine jj_icmp_ne 324 rfl rfl (fun _ => ?_) (fun q => absurd q hn2)
  refine jj_s (pc' := 325) rfl rfl ?_
  refine jj_g rfl rfl wM_o rfl ?_
  refine jj_s (pc' := 330) rfl rfl ?_
  refine jj_icmp_ne 366 rfl rfl (fun _ => ?_) (fun q => absurd q hn2)
  exact rd_366 k1 k2 hr (fun q => absurd q hn)
/-! the column of the new item is cleared -/
set_option maxHeartbeats 4000000 in
set_option maxRecDepth 100000 in
 theorem rd_141 {A2 : Nat → Nat → Int32} {V2 : Nat → Int32} {z1 z2 z3 : Option Value} {post : Option Value → Nat → HT → Prop} (hN : N < 20) (hD : V2 25 = nI N) (K : ∀ (A3 : Nat → Nat → Int32) z2, (∀ j, j ≠ 17 → A3 j = A2 j) → (∀ p, p < 20 → A3 17 (20 * p + N) = 0) → (∀ p i, i < 20 → i ≠ N → A3 17 (20 * p + i) = A2 17 (20 * p + i)) → JJ X0 G B M9_readItem 170 [some (.ref (B + m)), z1, z2, z3] [] n (wM B m A3 Wy V2 h) 0 0 post) : JJ X0 G B M9_readItem 141 [some (.ref (B + m)), z1, z2, z3] [] n (wM B m A2 Wy V2 h) 0 0 post := by
  refine jj_s (pc' := 142) rfl rfl ?_
  refine jj_s (pc' := 143) rfl rfl ?_
  have L1 : ∀ d k (A3 : Nat → Nat → Int32), k + d = 20 → (∀ j, j ≠ 17 → A3 j = A2 j) → (∀ p, p < k → A3 17 (20 * p + N) = 0) → (∀ p i, i < 20 → i ≠ N → A3 17 (20 * p + i) = A2 17 (20 * p + i)) → JJ X0 G B M9_readItem 143 [some (.ref (B + m)), z1, some (.int (nI k)), z3] [] n (wM B m A3 Wy V2 h) 0 0 post := by
    intro d
    induction d with
    | zero =>
      intro k A3 hk h1 h2 h3
      have hk : k = 20 := by omega
      subst hk
      refine jj_s (pc' := 144) rfl rfl ?_
      refine jj_s (pc' := 146) rfl rfl ?_
      refine jj_icmp_ge 170 rfl rfl (fun c => ?_) (fun c => absurd (by decide) c)
      exact K A3 _ h1 h2 h3
    | succ d ih =>
      intro k A3 hk h1 h2 h3
      refine jj_s (pc' := 144) rfl rfl ?_
      refine jj_s (pc' := 146) rfl rfl ?_
      refine jj_geN (b := 20) 170 rfl rfl (by omega) (by omega) (fun c => absurd c (by omega)) (fun c => ?_)
      refine jj_s (pc' := 150) rfl rfl ?_
      refine jj_g rfl rfl wM_o rfl ?_
      refine jj_s (pc' := 155) rfl rfl ?_
      refine jj_s (pc' := 156) rfl rfl ?_
      refine jj_s (pc' := 157) rfl rfl ?_
      refine jj_s (pc' := 158) rfl rfl ?_
      refine jj_g rfl rfl wM_o rfl ?_
      refine jj_s (pc' := 162) rfl rfl ?_
      refine jj_s (pc' := 163) rfl rfl ?_
      rw [hD, ix20 k N]
      refine jj_mst (j := 17) (i := 20 * k + N) 400 rfl rfl (by decide) (by omega) ?_
      first | refine jj_inc rfl rfl ?_ | refine jj_s (pc' := 167) rfl rfl ?_
      refine jj_s (pc' := 143) rfl rfl ?_
      refine ih (k + 1) (uF A3 17 (20 * k + N) 0) (by omega) (fun j hj => by rw [uF_j _ _ _ _ hj]; exact h1 j hj) (fun p hp => ?_) (fun p i hi hne => ?_)
      · by_cases e : p = k
        · subst e; exact uF_s _ _ _ _
        · rw [uF_i _ _ _ _ (by omega)]; exact h2 p (by omega)
      · rw [uF_i _ _ _ _ (by omega)]; exact h3 p i hi hne
  exact L1 20 0 A2 (by omega) (fun j _ => rfl) (fun p hp => absurd hp (by omega)) (fun p i _ _ => rfl)
/-! the edges -/
set_option maxHeartbeats 4000000 in
set_option maxRecDepth 100000 in
 theorem rd_loop {v : Nat} (hN : N < 20) (hl : len ≤ 200) (hv1 : 1 ≤ v ∧ v ≤ 20) (hrI : ∀ x F1 a1, rE C len N 200 (apF F N (cH C len a - 48) (nI v) 3 0 0) (rN C len (a + 2)).2 = (x, F1, a1) → rI C len N F a = (x, N + 1, F1, a1)) : ∀ q F1 a1 (A2 : Nat → Nat → Int32) (V2 : Nat → Int32) z1 z2 z3, len < a1 + q → a1 ≤ len → TX A2 V2 len C a1 → V2 21 = -7 → V2 25 = nI N → (∀ j, j ≠ 15 → j ≠ 16 → j ≠ 17 → A2 j = A j) → (∀ j, j ≠ 20 → j ≠ 21 → j ≠ 25 → V2 j = V j) → DA N F A2 → A2 15 N = cH C len a - 48 → A2 16 N = nI v → (∀ p, p < 20 → A2 17 (20 * p + N) = kd F1 p N) → (∀ i, i ≠ N → ∀ j, F1 j i = F j i) → (∀ j, j ≠ 11 → j ≠ 12 → F1 j = apF F N (cH C len a - 48) (nI v) 3 0 0 j) → rE C len N 200 (apF F N (cH C len a - 48) (nI v) 3 0 0) (rN C len (a + 2)).2 = rE C len N q F1 a1 → JJ X0 G B M9_readItem 170 [some (.ref (B + m)), z1, z2, z3] [] n (wM B m A2 Wy V2 h) 0 0 (rdQ B m n N F len C a A Wy V h) := by
  intro q
  induction q with
  | zero => intro F1 a1 A2 V2 z1 z2 z3 h1 h2; omega
  | succ q ih =>
    intro F1 a1 A2 V2 z1 z2 z3 hq ha1 hT hW hD k1 k2 hDA h15 h16 h17 hFo hFj hE
    have hT' := hT
    obtain ⟨t1, t2, t3, t4, t5⟩ := hT
    refine jj_s (pc' := 171) rfl rfl ?_
    refine jj_g rfl rfl wM_o rfl ?_
    refine jj_s (pc' := 176) rfl rfl ?_
    refine jj_icmp_ne 324 rfl rfl (fun z => absurd hW z) (fun _ => ?_)
    -- none of the two signs
    have out : ¬ (cH C len a1 = 60 ∨ cH C len a1 = 33) → JJ X0 G B M9_readItem 324 [some (.ref (B + m)), z1, z2, z3] [] n (wM B m A2 Wy V2 h) 0 0 (rdQ B m n N F len C a A Wy V h) := by
      intro hc
      have bad : ¬ cH C len a1 = 59 → JJ X0 G B M9_readItem 358 [some (.ref (B + m)), z1, z2, z3] [] n (wM B m A2 Wy V2 h) 0 0 (rdQ B m n N F len C a A Wy V h) := by
        intro h59
        have e : rI C len N F a = (nI a1, N + 1, F1, a1) := hrI _ _ _ (by rw [hE, rE, if_neg h59, if_neg hc])
        refine jj_s (pc' := 359) rfl rfl ?_
        refine jj_s (pc' := 360) rfl rfl ?_
        refine jj_g rfl rfl wM_o rfl ?_
        refine jj_w1 rfl rfl rfl wM_o rfl rfl (c9_fails _) ?_
        refine rd_366 k1 (fun j j1 j2 j3 => by rw [upd_n j2]; exact k2 j j1 j2 j3) (by rw [pk_us, if_pos hW, e, t3]) (fun z => ?_)
        rw [e] at z
        exact absurd z (enc_ne (by omega))
      refine jj_s (pc' := 325) rfl rfl ?_
      refine jj_g rfl rfl wM_o rfl ?_
      refine jj_s (pc' := 330) rfl rfl ?_
      refine jj_icmp_ne 366 rfl rfl (fun z => absurd hW z) (fun _ => ?_)
      refine jj_s (pc' := 334) rfl rfl ?_
      refine jj_g rfl rfl wM_o rfl ?_
      refine jj_s (pc' := 338) rfl rfl ?_
      refine jj_g rfl rfl wM_o rfl ?_
      rw [t1, t3]
      refine jj_geN 358 rfl rfl (by omega) (by omega) (fun c => bad (by rw [cH, if_neg (by omega)]; decide)) (fun c => ?_)
      have ec : cH C len a1 = C a1 := by rw [cH, if_pos c]
      refine jj_s (pc' := 345) rfl rfl ?_
      refine jj_g rfl rfl wM_o rfl ?_
      refine jj_s (pc' := 349) rfl rfl ?_
      refine jj_g rfl rfl wM_o rfl ?_
      rw [t3]
      refine jj_mld (j := 3) (i := a1) 200 rfl rfl (by decide) (by omega) ?_
      rw [t2 a1 c, ← ec]
      refine jj_s (pc' := 355) rfl rfl ?_
      refine jj_icmp_eq 366 rfl rfl (fun (c2 : cH C len a1 = 59) => ?_) (fun (c2 : ¬ cH C len a1 = 59) => bad c2)
      have e : rI C len N F a = (-7, N + 1, F1, a1 + 1) := hrI _ _ _ (by rw [hE, rE, if_pos c2])
      refine rd_366 k1 k2 (by rw [hW, e]) (fun _ => ?_)
      rw [e]
      refine ⟨by rw [t3]; exact nI_1 a1, hD, rfl, fun i hi => ?_⟩
      show A2 15 i = F1 0 i ∧ A2 16 i = F1 1 i ∧ ∀ p, p < 20 → A2 17 (20 * p + i) = kd F1 p i
      by_cases ei : i = N
      · subst ei
        refine ⟨?_, ?_, h17⟩
        · rw [h15, hFj 0 (by decide) (by decide), apF_at, if_pos rfl]; rfl
        · rw [h16, hFj 1 (by decide) (by decide), apF_at, if_pos rfl]; rfl
      · obtain ⟨g1, g2, g3⟩ := hDA i (by omega)
        refine ⟨by rw [g1, hFo i ei], by rw [g2, hFo i ei], fun p hp => ?_⟩
        rw [g3 p hp]
        unfold kd
        rw [hFo i ei, hFo i ei]
    refine jj_s (pc' := 180) rfl rfl ?_
    refine jj_g rfl rfl wM_o rfl ?_
    refine jj_s (pc' := 184) rfl rfl ?_
    refine jj_g rfl rfl wM_o rfl ?_
    rw [t1, t3]
    refine jj_geN 324 rfl rfl (by omega) (by omega) (fun c => out (by rw [cH, if_neg (by omega)]; decide)) (fun c => ?_)
    have ec : cH C len a1 = C a1 := by rw [cH, if_pos c]
    -- a sign
    have sign : (cH C len a1 = 60 ∨ cH C len a1 = 33) → JJ X0 G B M9_readItem 218 [some (.ref (B + m)), z1, z2, z3] [] n (wM B m A2 Wy V2 h) 0 0 (rdQ B m n N F len C a A Wy V h) := by
      intro hc
      have h59 : ¬ cH C len a1 = 59 := fun z => by rw [z] at hc; exact absurd hc (by decide)
      have go : ∀ k : Int32, k = (if cH C len a1 = 60 then 0 else 1) → JJ X0 G B M9_readItem 237 [some (.ref (B + m)), z1, z2, z3] [.int (k + 1)] n (wM B m A2 Wy V2 h) 0 0 (rdQ B m n N F len C a A Wy V h) := by
        intro k hk
        refine jj_s (pc' := 238) rfl rfl ?_
        refine jj_s (pc' := 239) rfl rfl ?_
        refine jj_s (pc' := 240) rfl rfl ?_
        refine jj_g rfl rfl wM_o rfl ?_
        refine jj_s (pc' := 244) rfl rfl ?_
        refine jj_s (pc' := 245) rfl rfl ?_
        refine jj_mpt rfl rfl rfl rfl rfl rfl ?_
        have hT2 : TX A2 (upd V2 20 (V2 20 + 1)) len C (a1 + 1) := ⟨by rw [upd_n (by decide)]; exact t1, t2, by rw [pk_us, t3, nI_1], by omega, t5⟩
        refine jj_h (h' := wM B m A2 Wy (upd V2 20 (V2 20 + 1)) h) rfl ?_
        have keep : ∀ j, j ≠ 20 → upd V2 20 (V2 20 + 1) j = V2 j := fun j hj => upd_n hj
        generalize upd V2 20 (V2 20 + 1) = V3 at hT2 keep ⊢
        have hW3 : V3 21 = -7 := by rw [keep 21 (by decide)]; exact hW
        have hD3 : V3 25 = nI N := by rw [keep 25 (by decide)]; exact hD
        have k23 : (∀ j, j ≠ 20 → j ≠ 21 → j ≠ 25 → V3 j = V j) := fun j j1 j2 j3 => (keep j j1).trans (k2 j j1 j2 j3)
        refine jj_s (pc' := 249) rfl rfl ?_
        refine jj_g rfl rfl wM_o rfl ?_
        rw [hT2.2.2.1]
        refine jj_s (pc' := 253) rfl rfl ?_
        refine jj_s (pc' := 254) rfl rfl ?_
        refine jj_vp0 rfl rfl rfl wM_o rfl rfl (c9_number hT2 hW3) (fun r n' h' z => ?_)
        obtain ⟨rfl, y1, y2⟩ := z
        cases hv : (rN C len (a1 + 1)).1 with
        | none =>
          obtain ⟨rfl, rfl⟩ := y1 hv
          have e : rI C len N F a = (nI (a1 + 1), N + 1, F1, (rN C len (a1 + 1)).2) := hrI _ _ _ (by rw [hE, rE, if_neg h59, if_pos hc, hv])
          have nw : ¬ upd V3 21 (nI (a1 + 1)) 21 = -7 := fun z => by rw [pk_us] at z; exact enc_ne (by omega) z
          refine jj_s (pc' := 258) rfl rfl ?_
          refine jj_s (pc' := 259) rfl rfl ?_
          refine jj_g rfl rfl wM_o rfl ?_
          refine jj_s (pc' := 264) rfl rfl ?_
          refine jj_icmp_ne 297 rfl rfl (fun _ => ?_) (fun z => absurd z nw)
          refine jj_s (pc' := 298) rfl rfl ?_
          refine jj_g rfl rfl wM_o rfl ?_
          refine jj_s (pc' := 303) rfl rfl ?_
          refine jj_icmp_ne 321 rfl rfl (fun _ => ?_) (fun z => absurd z nw)
          refine jj_s (pc' := 170) rfl rfl ?_
          exact rd_170 k1 (fun j j1 j2 j3 => by rw [upd_n j2]; exact k23 j j1 j2 j3) (by rw [pk_us, e]) (by rw [e]; exact enc_ne (by omega))
        | some w =>
          obtain ⟨rfl, V4, rfl, keep4, h20⟩ := y2 w hv
          obtain ⟨r1, r2, r3⟩ := rN_le (C := C) (len := len) (a := a1 + 1)
          have hw99 := r3 w hv
          have hW4 : V4 21 = -7 := by rw [keep4 21 (by decide)]; exact hW3
          have hD4 : V4 25 = nI N := by rw [keep4 25 (by decide)]; exact hD3
          have k24 : (∀ j, j ≠ 20 → j ≠ 21 → j ≠ 25 → V4 j = V j) := fun j j1 j2 j3 => (keep4 j j1).trans (k23 j j1 j2 j3)
          have bad : ¬ (w < N ∧ bt (prd F1 N) w = false) → JJ X0 G B M9_readItem 292 [some (.ref (B + m)), some (.int (nI (a1 + 1))), some (.int (k + 1)), some (.int (nI w))] [] n' (wM B m A2 Wy V4 h) 0 0 (rdQ B m n' N F len C a A Wy V h) := by
            intro hb
            have e : rI C len N F a = (nI (a1 + 1), N + 1, F1, (rN C len (a1 + 1)).2) := hrI _ _ _ (by rw [hE, rE, if_neg h59, if_pos hc, hv]; dsimp only; rw [if_neg hb])
            refine jj_s (pc' := 293) rfl rfl ?_
            refine jj_s (pc' := 294) rfl rfl ?_
            refine jj_w1 rfl rfl rfl wM_o rfl rfl (c9_fails _) ?_
            rw [if_pos hW4]
            have nw : ¬ upd V4 21 (nI (a1 + 1)) 21 = -7 := fun z => by rw [pk_us] at z; exact enc_ne (by omega) z
            refine jj_s (pc' := 298) rfl rfl ?_
            refine jj_g rfl rfl wM_o rfl ?_
            refine jj_s (pc' := 303) rfl rfl ?_
            refine jj_icmp_ne 321 rfl rfl (fun _ => ?_) (fun z => absurd z nw)
            refine jj_s (pc' := 170) rfl rfl ?_
            exact rd_170 k1 (fun j j1 j2 j3 => by rw [upd_n j2]; exact k24 j j1 j2 j3) (by rw [pk_us, e]) (by rw [e]; exact enc_ne (by omega))
          refine jj_s (pc' := 258) rfl rfl ?_
          refine jj_s (pc' := 259) rfl rfl ?_
          refine jj_g rfl rfl wM_o rfl ?_
          refine jj_s (pc' := 264) rfl rfl ?_
          refine jj_icmp_ne 297 rfl rfl (fun z => absurd hW4 z) (fun _ => ?_)
          refine jj_s (pc' := 268) rfl rfl ?_
          refine jj_s (pc' := 269) rfl rfl ?_
          refine jj_g rfl rfl wM_o rfl ?_
          rw [hD4]
          refine jj_geN 292 rfl rfl (by omega) (by omega) (fun c3 => bad (fun z => by omega)) (fun c3 => ?_)
          refine jj_s (pc' := 276) rfl rfl ?_
          refine jj_g rfl rfl wM_o rfl ?_
          refine jj_s (pc' := 281) rfl rfl ?_
          refine jj_s (pc' := 282) rfl rfl ?_
          refine jj_s (pc' := 283) rfl rfl ?_
          refine jj_s (pc' := 284) rfl rfl ?_
          refine jj_g rfl rfl wM_o rfl ?_
          refine jj_s (pc' := 288) rfl rfl ?_
          rw [hD4, ix20 w N]
          refine jj_mld (j := 17) (i := 20 * w + N) 400 rfl rfl (by decide) (by omega) ?_
          rw [h17 w (by omega)]
          refine jj_if_le 297 rfl rfl (fun c4 => ?_) (fun c4 => bad (fun z => c4 (kd_gt.mpr z.2)))
          have c4 := kd_gt.mp c4
          have hk01 : k = 0 ∨ k = 1 := by
            rw [hk]
            by_cases z : cH C len a1 = 60
            · rw [if_pos z]; exact Or.inl rfl
            · rw [if_neg z]; exact Or.inr rfl
          refine jj_s (pc' := 298) rfl rfl ?_
          refine jj_g rfl rfl wM_o rfl ?_
          refine jj_s (pc' := 303) rfl rfl ?_
          refine jj_icmp_ne 321 rfl rfl (fun z => absurd hW4 z) (fun _ => ?_)
          refine jj_s (pc' := 307) rfl rfl ?_
          refine jj_g rfl rfl wM_o rfl ?_
          refine jj_s (pc' := 312) rfl rfl ?_
          refine jj_s (pc' := 313) rfl rfl ?_
          refine jj_s (pc' := 314) rfl rfl ?_
          refine jj_s (pc' := 315) rfl rfl ?_
          refine jj_g rfl rfl wM_o rfl ?_
          refine jj_s (pc' := 319) rfl rfl ?_
          refine jj_s (pc' := 320) rfl rfl ?_
          rw [hD4, ix20 w N]
          refine jj_mst (j := 17) (i := 20 * w + N) 400 rfl rfl (by decide) (by omega) ?_
          refine jj_s (pc' := 170) rfl rfl ?_
          refine ih (ptF F1 w N k) (rN C len (a1 + 1)).2 (uF A2 17 (20 * w + N) (k + 1)) V4 _ _ _ (by omega) (by omega) ⟨by rw [keep4 6 (by decide)]; exact hT2.1, fun j hj => by rw [uF_j _ _ _ _ (by decide)]; exact t2 j hj, h20, by omega, t5⟩ hW4 hD4 (fun j j1 j2 j3 => by rw [uF_j _ _ _ _ j3]; exact k1 j j1 j2 j3) k24 (fun i hi => ?_) (by rw [uF_j _ _ _ _ (by decide)]; exact h15) (by rw [uF_j _ _ _ _ (by decide)]; exact h16) (fun p hp => ?_) (fun i hi j => by rw [ptF_i F1 w N k j hi]; exact hFo i hi j) (fun j j1 j2 => by rw [ptF_o F1 w N k j j1 j2]; exact hFj j j1 j2) ?_
          · obtain ⟨g1, g2, g3⟩ := hDA i hi
            rw [uF_j _ _ _ _ (by decide), uF_j _ _ _ _ (by decide)]
            refine ⟨g1, g2, fun p hp => ?_⟩
            rw [uF_i _ _ _ _ (by omega)]
            exact g3 p hp
          · rw [kd_pt F1 (by omega) N hk01 p]
            by_cases ep : p = w
            · subst ep; rw [if_pos rfl, uF_s]
            · rw [if_neg ep, uF_i _ _ _ _ (by omega)]; exact h17 p hp
          · rw [hE, rE, if_neg h59, if_pos hc, hv]
            dsimp only
            rw [if_pos ⟨c3, c4⟩, hk]
      refine jj_s (pc' := 219) rfl rfl ?_
      refine jj_g rfl rfl wM_o rfl ?_
      refine jj_s (pc' := 223) rfl rfl ?_
      refine jj_g rfl rfl wM_o rfl ?_
      rw [t3]
      refine jj_mld (j := 3) (i := a1) 200 rfl rfl (by decide) (by omega) ?_
      rw [t2 a1 c, ← ec]
      refine jj_s (pc' := 229) rfl rfl ?_
      refine jj_icmp_ne 236 rfl rfl (fun (c2 : ¬ cH C len a1 = 60) => ?_) (fun (c2 : cH C len a1 = 60) => ?_)
      · refine jj_s (pc' := 237) rfl rfl ?_
        exact go 1 (by rw [if_neg c2])
      · refine jj_s (pc' := 233) rfl rfl ?_
        refine jj_s (pc' := 237) rfl rfl ?_
        exact go 0 (by rw [if_pos c2])
    refine jj_s (pc' := 191) rfl rfl ?_
    refine jj_g rfl rfl wM_o rfl ?_
    refine jj_s (pc' := 195) rfl rfl ?_
    refine jj_g rfl rfl wM_o rfl ?_
    rw [t3]
    refine jj_mld (j := 3) (i := a1) 200 rfl rfl (by decide) (by omega) ?_
    rw [t2 a1 c, ← ec]
    refine jj_s (pc' := 201) rfl rfl ?_
    refine jj_icmp_eq 218 rfl rfl (fun (c2 : cH C len a1 = 60) => sign (Or.inl c2)) (fun (c2 : ¬ cH C len a1 = 60) => ?_)
    refine jj_s (pc' := 205) rfl rfl ?_
    refine jj_g rfl rfl wM_o rfl ?_
    refine jj_s (pc' := 209) rfl rfl ?_
    refine jj_g rfl rfl wM_o rfl ?_
    rw [t3]
    refine jj_mld (j := 3) (i := a1) 200 rfl rfl (by decide) (by omega) ?_
    rw [t2 a1 c, ← ec]
    refine jj_s (pc' := 215) rfl rfl ?_
    exact jj_icmp_ne 324 rfl rfl (fun (c3 : ¬ cH C len a1 = 33) => out (fun z => z.elim c2 c3)) (fun (c3 : cH C len a1 = 33) => sign (Or.inr c3))
end
