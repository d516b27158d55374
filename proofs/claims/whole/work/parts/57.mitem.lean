/-! one item of the text, from its first place on -/
section
variable {G : GC} {B n m : Nat} {A : Nat → Nat → Int32} {Wy : Nat → Int64} {V : Nat → Int32} {h : HT} {N len a : Nat} {C : Nat → Int32} {F : Nat → Nat → Int32}
set_option maxHeartbeats 4000000 in
set_option maxRecDepth 100000 in
 theorem c9_readItem (hT : TX A V len C a) (hN : N ≤ 20) (ha : a < len) (hW : V 21 = -7) (hD : V 25 = nI N) (hDA : DA N F A) : CtJ G B M9_readItem [.ref (B + m)] n (wM B m A Wy V h) 0 0 (rdQ B m n N F len C a A Wy V h) := by
  have hT' := hT
  obtain ⟨t1, t2, t3, t4, t5⟩ := hT
  unfold CtJ
  refine jj_lv (lv' := [some (.ref (B + m)), none, none, none]) rfl ?_
  have F16 : (N = 20 ∨ isD (cH C len a) = false) → JJ X0 G B M9_readItem 16 [some (.ref (B + m)), none, none, none] [] n (wM B m A Wy V h) 0 0 (rdQ B m n N F len C a A Wy V h) := by
    intro hc
    have e : rI C len N F a = (nI a, N, F, a) := by rw [rI, if_pos hc]
    refine jj_s (pc' := 17) rfl rfl ?_
    refine jj_s (pc' := 18) rfl rfl ?_
    refine jj_g rfl rfl wM_o rfl ?_
    refine jj_w1 rfl rfl rfl wM_o rfl rfl (c9_fails _) ?_
    refine jj_vret rfl rfl ⟨rfl, rfl, A, _, rfl, fun j _ _ _ => rfl, fun j _ h2 _ => upd_n h2, ?_, fun q => ?_⟩
    · rw [pk_us, if_pos hW, e, t3]
    · rw [e] at q; exact absurd q (enc_ne (by omega))
  refine jj_s (pc' := 1) rfl rfl ?_
  refine jj_g rfl rfl wM_o rfl ?_
  refine jj_s (pc' := 6) rfl rfl ?_
  rw [hD]
  refine jj_icmp_eq 16 rfl rfl (fun (c : nI N = nI 20) => F16 (Or.inl (nI_inj (by omega) (by omega) c))) (fun (c : ¬ nI N = nI 20) => ?_)
  have hN2 : N < 20 := by
    rcases Nat.lt_or_ge N 20 with q | q
    · exact q
    · exact absurd (by rw [show N = 20 by omega]) c
  refine jj_s (pc' := 10) rfl rfl ?_
  refine jj_v0 rfl rfl rfl wM_o rfl rfl (c9_isDigit hT') ?_
  refine jj_zF 25 rfl rfl (fun c2 => ?_) (fun c2 => F16 (Or.inr c2))
  have hc : ¬ (N = 20 ∨ isD (cH C len a) = false) := fun z => z.elim (by omega) (fun z => by rw [c2] at z; cases z)
  have ea : cH C len a = C a := by rw [cH, if_pos ha]
  refine jj_s (pc' := 26) rfl rfl ?_
  refine jj_g rfl rfl wM_o rfl ?_
  refine jj_s (pc' := 30) rfl rfl ?_
  refine jj_g rfl rfl wM_o rfl ?_
  refine jj_s (pc' := 34) rfl rfl ?_
  refine jj_g rfl rfl wM_o rfl ?_
  refine jj_s (pc' := 38) rfl rfl ?_
  refine jj_g rfl rfl wM_o rfl ?_
  rw [t3, hD]
  refine jj_mld (j := 3) (i := a) 200 rfl rfl (by decide) (by omega) ?_
  rw [t2 a ha, ← ea]
  refine jj_s (pc' := 44) rfl rfl ?_
  refine jj_s (pc' := 45) rfl rfl ?_
  refine jj_mst (j := 15) (i := N) 20 rfl rfl (by decide) (by omega) ?_
  refine jj_h (h' := wM B m (uF A 15 N (cH C len a - 48)) Wy V h) rfl ?_
  have k15 : ∀ j, j ≠ 15 → uF A 15 N (cH C len a - 48) j = A j := fun j hj => uF_j _ _ _ _ hj
  have k15i : ∀ i, i ≠ N → uF A 15 N (cH C len a - 48) 15 i = A 15 i := fun i hi => uF_i _ _ _ _ hi _
  have k15s : uF A 15 N (cH C len a - 48) 15 N = cH C len a - 48 := uF_s _ _ _ _
  generalize uF A 15 N (cH C len a - 48) = A1 at k15 k15i k15s ⊢
  refine jj_s (pc' := 47) rfl rfl ?_
  refine jj_s (pc' := 48) rfl rfl ?_
  refine jj_g rfl rfl wM_o rfl ?_
  refine jj_s (pc' := 52) rfl rfl ?_
  refine jj_s (pc' := 53) rfl rfl ?_
  refine jj_mpt rfl rfl rfl rfl rfl rfl ?_
  have hT2 : TX A1 (upd V 20 (V 20 + 1)) len C (a + 1) := ⟨by rw [upd_n (by decide)]; exact t1, fun j hj => by rw [k15 3 (by decide)]; exact t2 j hj, by rw [pk_us, t3, nI_1], by omega, t5⟩
  refine jj_h (h' := wM B m A1 Wy (upd V 20 (V 20 + 1)) h) rfl ?_
  have keep1 : ∀ j, j ≠ 20 → upd V 20 (V 20 + 1) j = V j := fun j hj => upd_n hj
  generalize upd V 20 (V 20 + 1) = V1 at hT2 keep1 ⊢
  obtain ⟨u1, u2, u3, u4, u5⟩ := hT2
  have F81 : ¬ cH C len (a + 1) = 119 → JJ X0 G B M9_readItem 81 [some (.ref (B + m)), none, none, none] [] n (wM B m A1 Wy V1 h) 0 0 (rdQ B m n N F len C a A Wy V h) := by
    intro h3
    have e : rI C len N F a = (nI (a + 1), N, F, a + 1) := by rw [rI, if_neg hc, if_pos h3]
    refine jj_s (pc' := 82) rfl rfl ?_
    refine jj_s (pc' := 83) rfl rfl ?_
    refine jj_g rfl rfl wM_o rfl ?_
    refine jj_w1 rfl rfl rfl wM_o rfl rfl (c9_fails _) ?_
    refine jj_vret rfl rfl ⟨rfl, rfl, A1, _, rfl, fun j j1 _ _ => k15 j j1, fun j j1 j2 _ => by rw [upd_n j2]; exact keep1 j j1, ?_, fun q => ?_⟩
    · rw [pk_us, keep1 21 (by decide), if_pos hW, e, u3]
    · rw [e] at q; exact absurd q (enc_ne (by omega))
  refine jj_s (pc' := 57) rfl rfl ?_
  refine jj_g rfl rfl wM_o rfl ?_
  refine jj_s (pc' := 61) rfl rfl ?_
  refine jj_g rfl rfl wM_o rfl ?_
  rw [u1, u3]
  refine jj_geN 81 rfl rfl (by omega) (by omega) (fun c3 => F81 (by rw [cH, if_neg (by omega)]; decide)) (fun c3 => ?_)
  have eb : cH C len (a + 1) = C (a + 1) := by rw [cH, if_pos c3]
  refine jj_s (pc' := 68) rfl rfl ?_
  refine jj_g rfl rfl wM_o rfl ?_
  refine jj_s (pc' := 72) rfl rfl ?_
  refine jj_g rfl rfl wM_o rfl ?_
  rw [u3]
  refine jj_mld (j := 3) (i := a + 1) 200 rfl rfl (by decide) (by omega) ?_
  rw [u2 _ c3, ← eb]
  refine jj_s (pc' := 78) rfl rfl ?_
  refine jj_icmp_eq 90 rfl rfl (fun (c4 : cH C len (a + 1) = 119) => ?_) (fun (c4 : ¬ cH C len (a + 1) = 119) => F81 c4)
  refine jj_s (pc' := 91) rfl rfl ?_
  refine jj_s (pc' := 92) rfl rfl ?_
  refine jj_g rfl rfl wM_o rfl ?_
  refine jj_s (pc' := 96) rfl rfl ?_
  refine jj_s (pc' := 97) rfl rfl ?_
  refine jj_mpt rfl rfl rfl rfl rfl rfl ?_
  have hT3 : TX A1 (upd V1 20 (V1 20 + 1)) len C (a + 2) := ⟨by rw [upd_n (by decide)]; exact u1, u2, by rw [pk_us, u3]; exact nI_1 (a + 1), by omega, u5⟩
  refine jj_h (h' := wM B m A1 Wy (upd V1 20 (V1 20 + 1)) h) rfl ?_
  have keep2 : ∀ j, j ≠ 20 → upd V1 20 (V1 20 + 1) j = V j := fun j hj => (upd_n hj).trans (keep1 j hj)
  generalize upd V1 20 (V1 20 + 1) = V2 at hT3 keep2 ⊢
  have hW2 : V2 21 = -7 := (keep2 21 (by decide)).trans hW
  have hD2 : V2 25 = nI N := (keep2 25 (by decide)).trans hD
  refine jj_s (pc' := 101) rfl rfl ?_
  refine jj_g rfl rfl wM_o rfl ?_
  rw [hT3.2.2.1]
  refine jj_s (pc' := 105) rfl rfl ?_
  refine jj_s (pc' := 106) rfl rfl ?_
  refine jj_g rfl rfl wM_o rfl ?_
  refine jj_s (pc' := 110) rfl rfl ?_
  refine jj_g rfl rfl wM_o rfl ?_
  refine jj_s (pc' := 114) rfl rfl ?_
  rw [hD2]
  refine jj_vp0 rfl rfl rfl wM_o rfl rfl (c9_number hT3 hW2) (fun r n' h' z => ?_)
  obtain ⟨rfl, y1, y2⟩ := z
  cases hv : (rN C len (a + 2)).1 with
  | none =>
    obtain ⟨rfl, rfl⟩ := y1 hv
    have e : rI C len N F a = (nI (a + 2), N, F, (rN C len (a + 2)).2) := by rw [rI, if_neg hc, if_neg (fun z => z c4), hv]
    refine jj_mst (j := 16) (i := N) 20 rfl rfl (by decide) (by omega) ?_
    have nw : ¬ upd V2 21 (nI (a + 2)) 21 = -7 := fun z => by rw [pk_us] at z; exact enc_ne (by omega) z
    refine jj_s (pc' := 119) rfl rfl ?_
    refine jj_g rfl rfl wM_o rfl ?_
    refine jj_s (pc' := 123) rfl rfl ?_
    refine jj_g rfl rfl wM_o rfl ?_
    rw [show upd V2 21 (nI (a + 2)) 25 = nI N by rw [upd_n (by decide)]; exact hD2]
    refine jj_mld (j := 16) (i := N) 20 rfl rfl (by decide) (by omega) ?_
    rw [uF_s]
    refine jj_s (pc' := 128) rfl rfl ?_
    refine jj_s (pc' := 130) rfl rfl ?_
    refine jj_t3 rfl rfl rfl rfl rfl (c9_isIn _ _ _) ?_
    refine jj_zF 141 rfl rfl (fun z => absurd z (by decide)) (fun _ => ?_)
    refine jj_s (pc' := 137) rfl rfl ?_
    refine jj_s (pc' := 138) rfl rfl ?_
    refine jj_w1 rfl rfl rfl wM_o rfl rfl (c9_fails _) ?_
    rw [if_neg nw]
    refine rd_141 hN2 (by rw [upd_n (by decide), upd_n (by decide)]; exact hD2) (fun A3 z2 g1 g2 g3 => ?_)
    refine rd_170 (fun j j1 j2 j3 => by rw [g1 j j3, uF_j _ _ _ _ j2]; exact k15 j j1) (fun j j1 j2 j3 => by rw [upd_n j2, upd_n j2]; exact keep2 j j1) (by rw [pk_us, pk_us, e]) (by rw [e]; exact enc_ne (by omega))
  | some v =>
    obtain ⟨rfl, V4, rfl, keep4, h20⟩ := y2 v hv
    obtain ⟨r1, r2, r3⟩ := rN_le (C := C) (len := len) (a := a + 2)
    have hv99 := r3 v hv
    have hW4 : V4 21 = -7 := (keep4 21 (by decide)).trans hW2
    have hD4 : V4 25 = nI N := (keep4 25 (by decide)).trans hD2
    have k24 : ∀ j, j ≠ 20 → V4 j = V j := fun j hj => (keep4 j hj).trans (keep2 j hj)
    refine jj_mst (j := 16) (i := N) 20 rfl rfl (by decide) (by omega) ?_
    refine jj_s (pc' := 119) rfl rfl ?_
    refine jj_g rfl rfl wM_o rfl ?_
    refine jj_s (pc' := 123) rfl rfl ?_
    refine jj_g rfl rfl wM_o rfl ?_
    rw [hD4]
    refine jj_mld (j := 16) (i := N) 20 rfl rfl (by decide) (by omega) ?_
    rw [uF_s]
    refine jj_s (pc' := 128) rfl rfl ?_
    refine jj_s (pc' := 130) rfl rfl ?_
    refine jj_t3 rfl rfl rfl rfl rfl (c9_isIn _ _ _) ?_
    refine jj_zF 141 rfl rfl (fun c5 => ?_) (fun c5 => ?_)
    · have c5 : 1 ≤ nI v ∧ nI v ≤ 20 := of_decide_eq_true c5
      have hv1 : 1 ≤ v ∧ v ≤ 20 := ⟨(nI_leI (a := 1) (b := v) (by omega) (by omega)).mp c5.1, (nI_leI (a := v) (b := 20) (by omega) (by omega)).mp c5.2⟩
      refine rd_141 hN2 hD4 (fun A3 z2 g1 g2 g3 => ?_)
      have hz : ∀ p, p < 20 → kd (apF F N (cH C len a - 48) (nI v) 3 0 0) p N = 0 := fun p _ => kd_z (by rw [apF_at, if_pos rfl]; rfl) (by rw [apF_at, if_pos rfl]; rfl)
      refine rd_loop (v := v) hN2 t5 hv1 (fun x F1 a1 hx => ?_) 200 (apF F N (cH C len a - 48) (nI v) 3 0 0) (rN C len (a + 2)).2 A3 V4 _ _ _ (by omega) (by omega) ⟨by rw [k24 6 (by decide)]; exact t1, fun j hj => by rw [g1 3 (by decide), uF_j _ _ _ _ (by decide), k15 3 (by decide)]; exact t2 j hj, h20, by omega, t5⟩ hW4 hD4 (fun j j1 j2 j3 => by rw [g1 j j3, uF_j _ _ _ _ j2]; exact k15 j j1) (fun j j1 j2 j3 => k24 j j1) (fun i hi => ?_) (by rw [g1 15 (by decide), uF_j _ _ _ _ (by decide)]; exact k15s) (by rw [g1 16 (by decide), uF_s]) (fun p hp => by rw [g2 p hp, hz p hp]) (fun i hi j => by rw [apF_at, if_neg hi]) (fun j _ _ => rfl) rfl
      · rw [rI, if_neg hc, if_neg (fun z => z c4), hv]
        dsimp only
        rw [if_pos hv1, hx]
      · obtain ⟨d1, d2, d3⟩ := hDA i hi
        refine ⟨?_, ?_, fun p hp => ?_⟩
        · rw [g1 15 (by decide), uF_j _ _ _ _ (by decide), k15i i (by omega)]; exact d1
        · rw [g1 16 (by decide), uF_i _ _ _ _ (by omega), k15 16 (by decide)]; exact d2
        · rw [g3 p i (by omega) (by omega), uF_j _ _ _ _ (by decide), k15 17 (by decide)]; exact d3 p hp
    · have hnv : ¬ (1 ≤ v ∧ v ≤ 20) := fun z => of_decide_eq_false c5 ⟨nI_le (a := 1) (b := v) z.1 (by omega), nI_le (a := v) (b := 20) z.2 (by omega)⟩
      have e : rI C len N F a = (nI (a + 2), N, F, (rN C len (a + 2)).2) := by
        rw [rI, if_neg hc, if_neg (fun z => z c4), hv]
        dsimp only
        rw [if_neg hnv]
      refine jj_s (pc' := 137) rfl rfl ?_
      refine jj_s (pc' := 138) rfl rfl ?_
      refine jj_w1 rfl rfl rfl wM_o rfl rfl (c9_fails _) ?_
      rw [if_pos hW4]
      refine rd_141 hN2 (by rw [upd_n (by decide)]; exact hD4) (fun A3 z2 g1 g2 g3 => ?_)
      refine rd_170 (fun j j1 j2 j3 => by rw [g1 j j3, uF_j _ _ _ _ j2]; exact k15 j j1) (fun j j1 j2 j3 => by rw [upd_n j2]; exact k24 j j1) (by rw [pk_us, e]) (by rw [e]; exact enc_ne (by omega))
end
