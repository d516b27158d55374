/-! the class's constructor, save and restore -/
theorem gl_nil {h : HT} {n : Nat} : gl h n [] = h := by
  funext k
  unfold gl
  rw [if_neg (by simp <;> omega)]
set_option maxHeartbeats 4000000 in
set_option maxRecDepth 100000 in
 theorem d_init {G : GC} {B : Nat} {h : HT} : CtJ G B M8_init [.ref (B + 0)] 1 (gl h 0 [ob 8 [.null, .null, .null, .null, .null, .null, .null, .null]]) 50 5123 (fun r2 n2 h2 => r2 = none ∧ n2 = 51 ∧ CL B 0 S0 F00 (fun _ => none) 0 (fun _ => 0) 0 (fun _ => 0) h2 ∧ tl51 h h2) := by
  unfold CtJ
  refine jj_lv (lv' := [some (.ref (B + 0))]) rfl ?_
  refine jj_s (pc' := 1) rfl rfl ?_
  refine jj_oinit rfl tw_ol8 tw_oi tw_oc (by decide) (by decide) ?_
  refine jj_s (pc' := 5) rfl rfl ?_
  refine jj_mkn (N := 18) [.int 0, .int 0, .int 0, .int 0, .int 0, .null, .null, .null, .null, .null, .null, .null, .null, .null, .null, .null, .null, .null] rfl rfl rfl rfl tw_cl8_7 tw_in5 tw_ii5 dfl5 rfl rfl rfl rfl rfl (fun h => c_Qinit) ?_
  refine jj_pr rfl rfl rfl rfl rfl rfl rfl rfl ?_
  refine jj_s (pc' := 16) rfl rfl ?_
  refine jj_s (pc' := 17) rfl rfl ?_
  refine jj_newq 2 rfl tw_cl8_7 (by decide) rfl (by decide) ?_
  refine jj_h (gl_new (h := h) (n := 0)) ?_
  refine jj_pr rfl rfl rfl rfl rfl rfl rfl rfl ?_
  refine jj_s (pc' := 24) rfl rfl ?_
  refine jj_new (N := 4) [.null, .null, .null, .null] rfl rfl tw_cl8_20 tw_in3 tw_ii3 dfl3 ?_
  refine jj_s (pc' := 28) rfl rfl ?_
  refine jj_s (pc' := 29) rfl rfl ?_
  refine jj_h (gl_new (h := h) (n := 0)) ?_
  refine jj_g rfl rfl (gl_at (n := 0) (i := 0) rfl) rfl ?_
  refine jj_h (gl_new (h := h) (n := 0)).symm ?_
  refine jj_h gl_one ?_
  refine jj_ig (as := [_]) rfl rfl rfl rfl rfl rfl rfl c_Pinit ?_
  refine jj_h (gl_gl (h := h) (n := 0)) ?_
  refine jj_pr rfl rfl rfl rfl rfl rfl rfl rfl ?_
  refine jj_s (pc' := 39) rfl rfl ?_
  refine jj_mkn (N := 3) [.int 0, .null, .null] rfl rfl rfl rfl tw_cl8_29 tw_in7 tw_ii7 dfl7 rfl rfl rfl rfl rfl (fun h => c_Winit) ?_
  refine jj_pr rfl rfl rfl rfl rfl rfl rfl rfl ?_
  refine jj_s (pc' := 50) rfl rfl ?_
  refine jj_mkn (N := 8) [.int 0, .null, .null, .null, .int 0, .int 0, .int 0, .int 0] rfl rfl rfl rfl tw_cl8_36 tw_in4 tw_ii4 dfl4 rfl rfl rfl rfl rfl (fun h => c_Linit) ?_
  refine jj_pr rfl rfl rfl rfl rfl rfl rfl rfl ?_
  refine jj_s (pc' := 61) rfl rfl ?_
  refine jj_mkn (N := 3) [.null, .null, .null] rfl rfl rfl rfl tw_cl8_43 tw_in1 tw_ii1 dfl1 rfl rfl rfl rfl rfl (fun h => c_Cinit) ?_
  refine jj_pr rfl rfl rfl rfl rfl rfl rfl rfl ?_
  refine jj_s (pc' := 72) rfl rfl ?_
  refine jj_mkn (N := 3) [.null, .null, .null] rfl rfl rfl rfl tw_cl8_50 tw_in2 tw_ii2 dfl2 rfl rfl rfl rfl rfl (fun h => c_Oinit) ?_
  refine jj_pr rfl rfl rfl rfl rfl rfl rfl rfl ?_
  refine jj_s (pc' := 83) rfl rfl ?_
  refine jj_mkn (N := 4) [.int 0, .null, .null, .int 0] rfl rfl rfl rfl tw_cl8_57 tw_in6 tw_ii6 dfl6 rfl rfl rfl rfl rfl (fun h => c_Tinit) ?_
  refine jj_pr rfl rfl rfl rfl rfl rfl rfl rfl ?_
  refine jj_vret rfl rfl ⟨rfl, rfl, ?_, ?_⟩
  · exact ⟨F00, F00, fun _ => 0, F00, F00, fun _ => 0, fun _ => 0, fun _ => 0, 0, 0, S0, F00, ⟨rfl, ⟨rfl, (fun j hj => by
      have hz : j = 0 ∨ j = 1 ∨ j = 2 ∨ j = 3 ∨ j = 4 ∨ j = 5 ∨ j = 6 ∨ j = 7 ∨ j = 8 ∨ j = 9 ∨ j = 10 ∨ j = 11 ∨ j = 12 := by omega
      rcases hz with rfl | rfl | rfl | rfl | rfl | rfl | rfl | rfl | rfl | rfl | rfl | rfl | rfl <;> rfl)⟩, rfl, ⟨rfl, (fun j hj => by
      have hz : j = 0 ∨ j = 1 ∨ j = 2 := by omega
      rcases hz with rfl | rfl | rfl <;> rfl)⟩, ⟨rfl, (fun j hj => by
      have hz : j = 0 ∨ j = 1 := by omega
      rcases hz with rfl | rfl <;> rfl)⟩, ⟨rfl, (fun j hj => by
      have hz : j = 0 ∨ j = 1 ∨ j = 2 := by omega
      rcases hz with rfl | rfl | rfl <;> rfl)⟩, ⟨rfl, (fun j hj => by
      have hz : j = 0 ∨ j = 1 ∨ j = 2 := by omega
      rcases hz with rfl | rfl | rfl <;> rfl)⟩, ⟨rfl, rfl, rfl, rfl⟩, ⟨rfl, rfl⟩, ⟨rfl, (fun j hj => by
      have hz : j = 0 ∨ j = 1 ∨ j = 2 ∨ j = 3 ∨ j = 4 ∨ j = 5 ∨ j = 6 ∨ j = 7 ∨ j = 8 ∨ j = 9 ∨ j = 10 ∨ j = 11 ∨ j = 12 := by omega
      rcases hz with rfl | rfl | rfl | rfl | rfl | rfl | rfl | rfl | rfl | rfl | rfl | rfl | rfl <;> rfl)⟩⟩, rfl⟩
  · intro k hk
    unfold gl
    rw [if_neg (by simp <;> omega)]
section
variable {B N : Nat} {S : Nat → Int32} {F : Nat → Nat → Int32} {f : Nat → Option Nat} {wl : Int32} {len : Nat} {C : Nat → Int32} {P Wr : Nat → Nat → Int32} {V : Nat → Int32} {Lr Cr : Nat → Nat → Int32} {w : Nat → Int64} {mb nd : Nat → Int32} {a Nd : Nat} {Sd : Nat → Int32} {Fd : Nat → Nat → Int32} {H H' : HT}
theorem CLx.kept (h : CLx B N S F f wl len C P Wr V Lr Cr w mb nd a Nd Sd Fd H) (e : ∀ k, k < 51 → H' k = H k) : CLx B N S F f wl len C P Wr V Lr Cr w mb nd a Nd Sd Fd H' := by
  obtain ⟨h0, h1, h2, h3, h4, h5, h6, h7, h8, h9⟩ := h
  exact ⟨(e _ (by omega)).trans h0, h1.kept (fun k _ _ => e k (by omega)), (e _ (by omega)).trans h2, h3.kept (fun k _ _ => e k (by omega)), h4.kept (fun k _ _ => e k (by omega)), h5.kept (fun k _ _ => e k (by omega)), h6.kept (fun k _ _ => e k (by omega)), ⟨(e _ (by omega)).trans h7.1, (e _ (by omega)).trans h7.2.1, (e _ (by omega)).trans h7.2.2.1, (e _ (by omega)).trans h7.2.2.2⟩, ⟨(e _ (by omega)).trans h8.1, (e _ (by omega)).trans h8.2⟩, h9.kept (fun k _ _ => e k (by omega))⟩
theorem CLx.sv (h : CLx B N S F f wl len C P Wr V Lr Cr w mb nd a Nd Sd Fd H) (f' : Nat → Option Nat) : CLx B N S F f' wl len C P Wr V Lr Cr w mb nd a Nd Sd Fd (hu H 15 (qa 2 f')) := by
  obtain ⟨h0, h1, h2, h3, h4, h5, h6, h7, h8, h9⟩ := h
  have e : ∀ k, k ≠ 15 → hu H 15 (qa 2 f') k = H k := fun k hk => hu_n _ _ _ hk
  exact ⟨(e _ (by omega)).trans h0, h1.kept (fun k _ _ => e k (by omega)), hu_s _ _ _, h3.kept (fun k _ _ => e k (by omega)), h4.kept (fun k _ _ => e k (by omega)), h5.kept (fun k _ _ => e k (by omega)), h6.kept (fun k _ _ => e k (by omega)), ⟨(e _ (by omega)).trans h7.1, (e _ (by omega)).trans h7.2.1, (e _ (by omega)).trans h7.2.2.1, (e _ (by omega)).trans h7.2.2.2⟩, ⟨(e _ (by omega)).trans h8.1, (e _ (by omega)).trans h8.2⟩, h9.kept (fun k _ _ => e k (by omega))⟩
end
theorem wth01 {x : Int32} (h : wth x 0 1 = true) : ∃ s, s < 2 ∧ x = nI s := by
  have h := of_decide_eq_true h
  obtain ⟨j, h1, rfl⟩ := nI_of (x := x) (Int32.not_lt.mpr h.1)
  have := (nI_leI (a := j) (b := 1) h1 (by omega)).mp h.2
  exact ⟨j, by omega, rfl⟩
set_option maxHeartbeats 4000000 in
set_option maxRecDepth 100000 in
 theorem d_saveBad {G : GC} {B n N : Nat} {S : Nat → Int32} {F : Nat → Nat → Int32} {f : Nat → Option Nat} {wl : Int32} {pt : Nat → Int32} {len : Nat} {C : Nat → Int32} {h : HT} (hN : N ≤ 20) (hC : CL B N S F f wl pt len C h) (x : Int32) (hx : wth x 0 1 = false) : CtJ G B M8_save [.ref (B + 0), .int x] n h 14 278 (fun r2 n2 h2 => r2 = some (.int (-2)) ∧ n2 = n ∧ CL B N S F f wl pt len C h2 ∧ tl51 h h2) := by
  unfold CtJ
  refine jj_lv (lv' := [some (.ref (B + 0)), some (.int x)]) rfl ?_
  refine jj_s (pc' := 1) rfl rfl ?_
  refine jj_s (pc' := 2) rfl rfl ?_
  refine jj_s (pc' := 3) rfl rfl ?_
  refine jj_t3 rfl rfl rfl rfl rfl (c_isWithin _ _ _) ?_
  refine jj_zF 12 rfl rfl (fun (c1 : wth x 0 1 = true) => absurd (hx.symm.trans c1) (by decide)) (fun c1 => ?_)
  refine jj_s (pc' := 11) rfl rfl ?_
  exact jj_iret rfl rfl ⟨rfl, rfl, hC, tl_0⟩
set_option maxHeartbeats 4000000 in
set_option maxRecDepth 100000 in
 theorem d_saveOld {G : GC} {B n N : Nat} {S : Nat → Int32} {F : Nat → Nat → Int32} {f : Nat → Option Nat} {wl : Int32} {pt : Nat → Int32} {len : Nat} {C : Nat → Int32} {h : HT} (hN : N ≤ 20) (hC : CL B N S F f wl pt len C h) {s a N' : Nat} {S' : Nat → Int32} {F' : Nat → Nat → Int32} (hs : s < 2) (ha : 51 ≤ a) (hf : f s = some (B + a)) (hQ : sQ B a N' S' F' h) : CtJ G B M8_save [.ref (B + 0), .int (nI s)] n h 14 278 (fun r2 n2 h2 => r2 = some (.int (nI N)) ∧ n2 = n ∧ CL B N S F f wl pt len C h2 ∧ sQ B a N S (fun j => cp (F j) (F' j)) h2 ∧ ∀ k, 51 ≤ k → (k < a ∨ a + 14 ≤ k) → h2 k = h k) := by
  obtain ⟨P, Wr, V, Lr, Cr, w, mb, nd, at', Nd, Sd, Fd, hc, hpt⟩ := hC
  unfold CtJ
  refine jj_lv (lv' := [some (.ref (B + 0)), some (.int (nI s))]) rfl ?_
  refine jj_s (pc' := 1) rfl rfl ?_
  refine jj_s (pc' := 2) rfl rfl ?_
  refine jj_s (pc' := 3) rfl rfl ?_
  refine jj_t3 rfl rfl rfl rfl rfl (c_isWithin _ _ _) ?_
  refine jj_zF 12 rfl rfl (fun c1 => ?_) (fun c1 => absurd (show 0 ≤ nI s ∧ nI s ≤ 1 from ⟨nI_pos' (by omega), nI_le (a := s) (b := 1) (by omega) (by omega)⟩) (of_decide_eq_false c1))
  refine jj_s (pc' := 13) rfl rfl ?_
  refine jj_g rfl rfl hc.1 rfl ?_
  refine jj_s (pc' := 17) rfl rfl ?_
  refine jj_aald rfl hc.2.2.1 (vp_in_nI hs (by omega)) ?_
  refine jj_st (st' := [.ref (B + a)]) (by rw [nI_clamp (by omega), hf]; rfl) ?_
  refine jj_nn 34 rfl rfl ?_
  refine jj_s (pc' := 35) rfl rfl ?_
  refine jj_g rfl rfl hc.1 rfl ?_
  refine jj_s (pc' := 39) rfl rfl ?_
  refine jj_aald rfl hc.2.2.1 (vp_in_nI hs (by omega)) ?_
  refine jj_st (st' := [.ref (B + a)]) (by rw [nI_clamp (by omega), hf]; rfl) ?_
  refine jj_s (pc' := 41) rfl rfl ?_
  refine jj_g rfl rfl hc.1 rfl ?_
  refine jj_h hQ.id ?_
  refine jj_w1 rfl rfl rfl wQ_o rfl rfl (c_copyAll (q2 := 1) (by omega) hc.2.1.1 hc.2.1.2) ?_
  have hc1 : CLx B N S F f wl len C P Wr V Lr Cr w mb nd at' Nd Sd Fd (wQ B a N S (fun j => cp (F j) (F' j)) h) := hc.kept (fun k hk => wQ_n (by omega))
  refine jj_s (pc' := 48) rfl rfl ?_
  refine jj_g rfl rfl hc1.1 rfl ?_
  refine jj_g rfl rfl hc1.2.1.1 rfl ?_
  exact jj_iret rfl rfl ⟨rfl, rfl, hc1.cl hpt, sQ.w, fun k h1 h2 => wQ_n h2⟩
set_option maxHeartbeats 4000000 in
set_option maxRecDepth 100000 in
 theorem d_saveNew {G : GC} {B n N : Nat} {S : Nat → Int32} {F : Nat → Nat → Int32} {f : Nat → Option Nat} {wl : Int32} {pt : Nat → Int32} {len : Nat} {C : Nat → Int32} {h : HT} (hN : N ≤ 20) (hC : CL B N S F f wl pt len C h) {s : Nat} (hs : s < 2) (hn : 51 ≤ n) (hf : f s = none) : CtJ G B M8_save [.ref (B + 0), .int (nI s)] n h 14 278 (fun r2 n2 h2 => r2 = some (.int (nI N)) ∧ n2 = n + 14 ∧ CL B N S F (va_up f s (some (B + n))) wl pt len C h2 ∧ sQ B n N S (fun j => cp (F j) (fun _ => 0)) h2 ∧ ∀ k, 51 ≤ k → k < n → h2 k = h k) := by
  obtain ⟨P, Wr, V, Lr, Cr, w, mb, nd, at', Nd, Sd, Fd, hc, hpt⟩ := hC
  unfold CtJ
  refine jj_lv (lv' := [some (.ref (B + 0)), some (.int (nI s))]) rfl ?_
  refine jj_s (pc' := 1) rfl rfl ?_
  refine jj_s (pc' := 2) rfl rfl ?_
  refine jj_s (pc' := 3) rfl rfl ?_
  refine jj_t3 rfl rfl rfl rfl rfl (c_isWithin _ _ _) ?_
  refine jj_zF 12 rfl rfl (fun c1 => ?_) (fun c1 => absurd (show 0 ≤ nI s ∧ nI s ≤ 1 from ⟨nI_pos' (by omega), nI_le (a := s) (b := 1) (by omega) (by omega)⟩) (of_decide_eq_false c1))
  refine jj_s (pc' := 13) rfl rfl ?_
  refine jj_g rfl rfl hc.1 rfl ?_
  refine jj_s (pc' := 17) rfl rfl ?_
  refine jj_aald rfl hc.2.2.1 (vp_in_nI hs (by omega)) ?_
  refine jj_st (st' := [.null]) (by rw [nI_clamp (by omega), hf]; rfl) ?_
  refine jj_nnN rfl ?_
  refine jj_s (pc' := 22) rfl rfl ?_
  refine jj_g rfl rfl hc.1 rfl ?_
  refine jj_s (pc' := 26) rfl rfl ?_
  refine jj_h (gl_nil (n := n)).symm ?_
  refine jj_mkn (N := 18) [.int 0, .int 0, .int 0, .int 0, .int 0, .null, .null, .null, .null, .null, .null, .null, .null, .null, .null, .null, .null, .null] rfl rfl rfl rfl tw_cl8_7 tw_in5 tw_ii5 dfl5 rfl rfl rfl rfl rfl (fun h => c_Qinit) ?_
  have e0 : gl h n (ob 5 (qobj B n 0 S0) :: List.replicate 13 zr) = wQ B n 0 S0 F00 h := by
    funext k
    by_cases hk : k < n ∨ n + 14 ≤ k
    · rw [wQ_n hk]
      unfold gl
      rw [if_neg (by simp <;> omega)]
    · obtain ⟨j, rfl⟩ : ∃ j, k = n + j := ⟨k - n, by omega⟩
      rcases j with _ | j
      · rw [gl_at (i := 0) rfl]; exact wQ_o.symm
      · rw [wQ_a (by omega), gl_at (i := j + 1) (e := zr) (by rw [List.getElem?_cons_succ, List.getElem?_replicate, if_pos (by omega)])]
  have hc1 : CLx B N S F f wl len C P Wr V Lr Cr w mb nd at' Nd Sd Fd (wQ B n 0 S0 F00 h) := hc.kept (fun k hk => wQ_n (by omega))
  refine jj_h (h' := wQ B n 0 S0 F00 h) e0 ?_
  refine jj_aast rfl hc1.2.2.1 wQ_o (vp_in_nI hs (by omega)) ?_
  rw [nI_clamp (by omega)]
  have hc2 := hc1.sv (va_up f s (some (B + n)))
  have hQ2 : sQ B n 0 S0 F00 (hu (wQ B n 0 S0 F00 h) 15 (qa 2 (va_up f s (some (B + n))))) := (sQ.w (H := h)).kept (fun k h1 h2 => hu_n _ _ _ (by omega))
  have hk2 : ∀ k, 51 ≤ k → k < n → hu (wQ B n 0 S0 F00 h) 15 (qa 2 (va_up f s (some (B + n)))) k = h k := fun k h1 h2 => (hu_n _ _ _ (by omega)).trans (wQ_n (by omega))
  generalize hu (wQ B n 0 S0 F00 h) 15 (qa 2 (va_up f s (some (B + n)))) = h3 at hc2 hQ2 hk2 ⊢
  refine jj_s (pc' := 35) rfl rfl ?_
  refine jj_g rfl rfl hc2.1 rfl ?_
  refine jj_s (pc' := 39) rfl rfl ?_
  refine jj_aald rfl hc2.2.2.1 (vp_in_nI hs (by omega)) ?_
  refine jj_st (st' := [.ref (B + n)]) (by rw [nI_clamp (by omega)]; simp [va_up, va_rf]) ?_
  refine jj_s (pc' := 41) rfl rfl ?_
  refine jj_g rfl rfl hc2.1 rfl ?_
  refine jj_h hQ2.id ?_
  refine jj_w1 rfl rfl rfl wQ_o rfl rfl (c_copyAll (q2 := 1) (by omega) hc2.2.1.1 hc2.2.1.2) ?_
  have hc3 : CLx B N S F (va_up f s (some (B + n))) wl len C P Wr V Lr Cr w mb nd at' Nd Sd Fd (wQ B n N S (fun j => cp (F j) (F00 j)) h3) := hc2.kept (fun k hk => wQ_n (by omega))
  refine jj_s (pc' := 48) rfl rfl ?_
  refine jj_g rfl rfl hc3.1 rfl ?_
  refine jj_g rfl rfl hc3.2.1.1 rfl ?_
  exact jj_iret rfl rfl ⟨rfl, rfl, hc3.cl hpt, sQ.w, fun k h1 h2 => (wQ_n (by omega)).trans (hk2 k h1 h2)⟩
set_option maxHeartbeats 4000000 in
set_option maxRecDepth 100000 in
 theorem d_restoreBad {G : GC} {B n N : Nat} {S : Nat → Int32} {F : Nat → Nat → Int32} {f : Nat → Option Nat} {wl : Int32} {pt : Nat → Int32} {len : Nat} {C : Nat → Int32} {h : HT} (hN : N ≤ 20) (hC : CL B N S F f wl pt len C h) (x : Int32) (hx : wth x 0 1 = false) : CtJ G B M8_restore [.ref (B + 0), .int x] n h 0 0 (fun r2 n2 h2 => r2 = some (.int (-2)) ∧ n2 = n ∧ CL B N S F f wl pt len C h2 ∧ tl51 h h2) := by
  unfold CtJ
  refine jj_lv (lv' := [some (.ref (B + 0)), some (.int x)]) rfl ?_
  refine jj_s (pc' := 1) rfl rfl ?_
  refine jj_s (pc' := 2) rfl rfl ?_
  refine jj_s (pc' := 3) rfl rfl ?_
  refine jj_t3 rfl rfl rfl rfl rfl (c_isWithin _ _ _) ?_
  refine jj_zF 12 rfl rfl (fun (c1 : wth x 0 1 = true) => absurd (hx.symm.trans c1) (by decide)) (fun c1 => ?_)
  refine jj_s (pc' := 11) rfl rfl ?_
  exact jj_iret rfl rfl ⟨rfl, rfl, hC, tl_0⟩
set_option maxHeartbeats 4000000 in
set_option maxRecDepth 100000 in
 theorem d_restoreNo {G : GC} {B n N : Nat} {S : Nat → Int32} {F : Nat → Nat → Int32} {f : Nat → Option Nat} {wl : Int32} {pt : Nat → Int32} {len : Nat} {C : Nat → Int32} {h : HT} (hN : N ≤ 20) (hC : CL B N S F f wl pt len C h) {s : Nat} (hs : s < 2) (hf : f s = none) : CtJ G B M8_restore [.ref (B + 0), .int (nI s)] n h 0 0 (fun r2 n2 h2 => r2 = some (.int (-4)) ∧ n2 = n ∧ CL B N S F f wl pt len C h2 ∧ tl51 h h2) := by
  obtain ⟨P, Wr, V, Lr, Cr, w, mb, nd, at', Nd, Sd, Fd, hc, hpt⟩ := hC
  unfold CtJ
  refine jj_lv (lv' := [some (.ref (B + 0)), some (.int (nI s))]) rfl ?_
  refine jj_s (pc' := 1) rfl rfl ?_
  refine jj_s (pc' := 2) rfl rfl ?_
  refine jj_s (pc' := 3) rfl rfl ?_
  refine jj_t3 rfl rfl rfl rfl rfl (c_isWithin _ _ _) ?_
  refine jj_zF 12 rfl rfl (fun c1 => ?_) (fun c1 => absurd (show 0 ≤ nI s ∧ nI s ≤ 1 from ⟨nI_pos' (by omega), nI_le (a := s) (b := 1) (by omega) (by omega)⟩) (of_decide_eq_false c1))
  refine jj_s (pc' := 13) rfl rfl ?_
  refine jj_g rfl rfl hc.1 rfl ?_
  refine jj_s (pc' := 17) rfl rfl ?_
  refine jj_aald rfl hc.2.2.1 (vp_in_nI hs (by omega)) ?_
  refine jj_st (st' := [.null]) (by rw [nI_clamp (by omega), hf]; rfl) ?_
  refine jj_nnN rfl ?_
  refine jj_s (pc' := 23) rfl rfl ?_
  exact jj_iret rfl rfl ⟨rfl, rfl, hc.cl hpt, tl_0⟩
set_option maxHeartbeats 4000000 in
set_option maxRecDepth 100000 in
 theorem d_restoreYes {G : GC} {B n N : Nat} {S : Nat → Int32} {F : Nat → Nat → Int32} {f : Nat → Option Nat} {wl : Int32} {pt : Nat → Int32} {len : Nat} {C : Nat → Int32} {h : HT} (hN : N ≤ 20) (hC : CL B N S F f wl pt len C h) {s a N' : Nat} {S' : Nat → Int32} {F' : Nat → Nat → Int32} (hs : s < 2) (ha : 51 ≤ a) (hf : f s = some (B + a)) (hQ : sQ B a N' S' F' h) : CtJ G B M8_restore [.ref (B + 0), .int (nI s)] n h 0 0 (fun r2 n2 h2 => r2 = some (.int (nI N')) ∧ n2 = n ∧ CL B N' S' (fun j => cp (F' j) (F j)) f 0 pt len C h2 ∧ tl51 h h2) := by
  obtain ⟨P, Wr, V, Lr, Cr, w, mb, nd, at', Nd, Sd, Fd, hc, hpt⟩ := hC
  unfold CtJ
  refine jj_lv (lv' := [some (.ref (B + 0)), some (.int (nI s))]) rfl ?_
  refine jj_s (pc' := 1) rfl rfl ?_
  refine jj_s (pc' := 2) rfl rfl ?_
  refine jj_s (pc' := 3) rfl rfl ?_
  refine jj_t3 rfl rfl rfl rfl rfl (c_isWithin _ _ _) ?_
  refine jj_zF 12 rfl rfl (fun c1 => ?_) (fun c1 => absurd (show 0 ≤ nI s ∧ nI s ≤ 1 from ⟨nI_pos' (by omega), nI_le (a := s) (b := 1) (by omega) (by omega)⟩) (of_decide_eq_false c1))
  refine jj_s (pc' := 13) rfl rfl ?_
  refine jj_g rfl rfl hc.1 rfl ?_
  refine jj_s (pc' := 17) rfl rfl ?_
  refine jj_aald rfl hc.2.2.1 (vp_in_nI hs (by omega)) ?_
  refine jj_st (st' := [.ref (B + a)]) (by rw [nI_clamp (by omega), hf]; rfl) ?_
  refine jj_nn 24 rfl rfl ?_
  refine jj_s (pc' := 25) rfl rfl ?_
  refine jj_g rfl rfl hc.1 rfl ?_
  refine jj_s (pc' := 29) rfl rfl ?_
  refine jj_g rfl rfl hc.1 rfl ?_
  refine jj_s (pc' := 33) rfl rfl ?_
  refine jj_aald rfl hc.2.2.1 (vp_in_nI hs (by omega)) ?_
  refine jj_st (st' := [.ref (B + a), .ref (B + 1)]) (by rw [nI_clamp (by omega), hf]; rfl) ?_
  refine jj_h hc.iq ?_
  refine jj_w1 rfl rfl rfl wQ_o rfl rfl (c_copyAll (q2 := a) (by omega) hQ.1 hQ.2) ?_
  have hc1 := hc.q N' S' (fun j => cp (F' j) (F j))
  refine jj_s (pc' := 38) rfl rfl ?_
  refine jj_g rfl rfl hc1.1 rfl ?_
  refine jj_h hc1.iv ?_
  refine jj_w0 rfl rfl rfl wA_o rfl rfl c_forget ?_
  have hc2 := hc1.wi 0 Wr
  refine jj_s (pc' := 45) rfl rfl ?_
  refine jj_g rfl rfl hc2.1 rfl ?_
  refine jj_g rfl rfl hc2.2.1.1 rfl ?_
  exact jj_iret rfl rfl ⟨rfl, rfl, hc2.cl hpt, tl_a (by omega) (tl_q tl_0)⟩
