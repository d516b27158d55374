/-! the law: from its entry -/
set_option maxHeartbeats 4000000 in
set_option maxRecDepth 100000 in
theorem law_start {nm : String} {G : GC} {B b L : Nat} {xs : Nat → Int32} (hL : L ≤ 3072) : JJ (XL B b L xs) G B (M_lawN nm) 0 [some (.ref b), none, none, none] [] 0 (fun _ => none) 600000 7302250 (fun r _ _ => r = some (.int 1)) := by
  refine jj_wk (kc' := 14 * (L + 1) + 18 + 1 + 50 + 1) (ks' := 278 * (L + 1) + 6891 + 26 + 5123 + 8) (by omega) (by omega) ?_
  refine jj_new (ci := 8) (N := 8) [.null, .null, .null, .null, .null, .null, .null, .null] rfl rfl (clL_7 nm) tw_in8 tw_ii8 dfl8 ?_
  refine jj_s (pc' := 4) rfl rfl ?_
  refine jj_h gl_one ?_
  refine jj_cIP (as := []) (rest := [.ref (B + 0)]) (a := 0) (mc' := 50) (ms' := 5123) rfl ok8_init ow8_init rfl (lkL_9 nm) rfl rfl rfl (fun v hv => absurd hv List.not_mem_nil) (Nat.le_of_ble_eq_true rfl) (Nat.le_of_ble_eq_true rfl) (by omega) (by omega) d_init (fun r n2 h2 q => ?_)
  obtain ⟨rfl, rfl, hC, ht⟩ := q
  refine jj_wk (kc' := 14 * (L + 1) + 18 + 1) (ks' := 278 * (L + 1) + 6891 + 26) (by omega) (by omega) ?_
  refine jj_s (pc' := 8) rfl rfl ?_
  refine jj_new (ci := 9) (N := 26) [.null, .null, .int 0, .null, .int 0, .null, .int 0, .int 0, .int 0, .null, .null, .null, .null, .null, .null, .null, .null, .null, .null, .null, .int 0, .int 0, .null, .null, .null, .int 0] rfl rfl (clL_10 nm) tw_in9 tw_ii9 dfl9 ?_
  refine jj_s (pc' := 12) rfl rfl ?_
  refine jj_h gl_one ?_
  refine jj_cIP (as := []) (rest := [.ref (B + 51)]) (a := 51) (mc' := 18) (ms' := 6891) rfl ok9_init ow9_init rfl (lkL_12 nm) rfl rfl rfl (fun v hv => absurd hv List.not_mem_nil) (Nat.le_of_ble_eq_true rfl) (Nat.le_of_ble_eq_true rfl) (by omega) (by omega) (m_init (F := F00) (pt := fun _ => 0) (C := fun _ => 0)) (fun r n3 h3 q => ?_)
  obtain ⟨rfl, rfl, hM, ht2⟩ := q
  refine jj_wk (kc' := 14 * (L + 1)) (ks' := 278 * (L + 1)) (by omega) (by omega) ?_
  refine jj_s (pc' := 16) rfl rfl ?_
  refine jj_s (pc' := 17) rfl rfl ?_
  refine jj_s (pc' := 18) rfl rfl ?_
  refine jj_lv (lv' := [some (.ref b), some (.ref (B + 0)), some (.ref (B + 51)), some (.int (nI 0))]) rfl (law_loop hL (L + 1) 0 70 h3 (by omega) (by omega) ?_)
  exact ⟨0, S0, F00, fun _ => none, 0, fun _ => 0, 0, fun _ => 0, fun _ => none, by omega, by omega, Inv_0 F00, hC.kept (fun k hk => ht2 k (Or.inl hk)), hM, by omega, fun s _ => Or.inl ⟨rfl, rfl⟩, fun _ _ => rfl, fun s t a b _ _ _ e1 => by cases e1⟩
/-! what the tables say of the start -/
theorem lm1 {w : Cond} (i : Nat) (h : tables_1_1[i]? = some w) : w ∈ lw_tbl := List.mem_append_right _ (List.mem_append_left _ (List.mem_of_getElem? h))
theorem lm3 {w : Cond} (i : Nat) (h : tables_1_3[i]? = some w) : w ∈ lw_tbl := List.mem_append_right _ (List.mem_append_right _ (List.mem_append_right _ (List.mem_append_left _ (List.mem_of_getElem? h))))
theorem nst_in : ∀ q ∈ nstL, Cond.methodLinkNest q.1 q.2.1 q.2.2.1 q.2.2.2 ∈ lw_tbl := by
  unfold nstL
  exact List.forall_mem_cons.mpr ⟨lm1 24 rfl, List.forall_mem_cons.mpr ⟨lm1 124 rfl, List.forall_mem_cons.mpr ⟨lm1 142 rfl, List.forall_mem_cons.mpr ⟨lm1 175 rfl, List.forall_mem_cons.mpr ⟨lm1 191 rfl, List.forall_mem_cons.mpr ⟨lm1 208 rfl, List.forall_mem_cons.mpr ⟨lm1 213 rfl, List.forall_mem_cons.mpr ⟨lm3 209 rfl, fun _ h => absurd h List.not_mem_nil⟩⟩⟩⟩⟩⟩⟩⟩
theorem ao_in : Cond.arrayOver (.object "DependencyQueue$Queue") ∈ lw_tbl := lm1 102 rfl
theorem kn_all {args : Array Value} {s : State} (hts : ∀ w ∈ tW, w.before args s = true) (ao : (Cond.arrayOver (.object "DependencyQueue$Queue")).before args s = true) : ∃ G : GC, va_K G.1 clG (tysG G) s := by
  have e : ∀ k : Nat, ∃ d : ClassId × (Nat → Nat), ∀ q, clG[k]? = some q → u_Kn s q.1 q.2.1 q.2.2 d.1 d.2 := by
    intro k
    match k with
    | 0 => obtain ⟨cC, iS, hk⟩ := u_known hts in1 (hts _ tw_in1); exact ⟨(cC, iS), fun q hq => by cases hq; exact hk⟩
    | 1 => obtain ⟨cC, iS, hk⟩ := u_known hts in1 (hts _ tw_in1); exact ⟨(cC, iS), fun q hq => by cases hq; exact hk⟩
    | 2 => obtain ⟨cC, iS, hk⟩ := u_known hts in2 (hts _ tw_in2); exact ⟨(cC, iS), fun q hq => by cases hq; exact hk⟩
    | 3 => obtain ⟨cC, iS, hk⟩ := u_known hts in3 (hts _ tw_in3); exact ⟨(cC, iS), fun q hq => by cases hq; exact hk⟩
    | 4 => obtain ⟨cC, iS, hk⟩ := u_known hts in4 (hts _ tw_in4); exact ⟨(cC, iS), fun q hq => by cases hq; exact hk⟩
    | 5 => obtain ⟨cC, iS, hk⟩ := u_known hts in5 (hts _ tw_in5); exact ⟨(cC, iS), fun q hq => by cases hq; exact hk⟩
    | 6 => obtain ⟨cC, iS, hk⟩ := u_known hts in6 (hts _ tw_in6); exact ⟨(cC, iS), fun q hq => by cases hq; exact hk⟩
    | 7 => obtain ⟨cC, iS, hk⟩ := u_known hts in7 (hts _ tw_in7); exact ⟨(cC, iS), fun q hq => by cases hq; exact hk⟩
    | 8 => obtain ⟨cC, iS, hk⟩ := u_known hts in8 (hts _ tw_in8); exact ⟨(cC, iS), fun q hq => by cases hq; exact hk⟩
    | 9 => obtain ⟨cC, iS, hk⟩ := u_known hts in9 (hts _ tw_in9); exact ⟨(cC, iS), fun q hq => by cases hq; exact hk⟩
    | k + 10 => exact ⟨(0, fun _ => 0), fun q hq => by cases hq⟩
  obtain ⟨d, hd⟩ := Classical.axiomOfChoice e
  obtain ⟨cI, kI, pI, i1, i2, i3⟩ := Cond.arrayClass_spec (hts _ tw_ai)
  obtain ⟨cL, kL, pL, j1, j2, j3⟩ := Cond.arrayClass_spec (hts _ tw_al)
  obtain ⟨pO, cO, kO, o1, o2, o3, o4, o5⟩ := Cond.arrayOver_spec ao
  refine ⟨((fun k => (d k).1, fun k => (d k).2), cI, cL, cO), fun k q hq => hd k q hq, fun k q hk => ?_⟩
  match k, hk with
  | 0, hk => cases hk; exact ⟨fun n z => ⟨fun k h => (by cases h), kI, i2, pI, i3⟩, i1⟩
  | 1, hk => cases hk; exact ⟨fun n z => ⟨fun k h => (by cases h), kL, j2, pL, j3⟩, j1⟩
  | 2, hk => cases hk; exact ⟨fun n z => ⟨fun k h => (by cases h), kO, o3, pO, o4⟩, kO, pO, o3, o4, o1, o5⟩
  | k + 3, hk => cases hk
