/-! the class's calls, the rest -/
section
variable {B N : Nat} {S : Nat → Int32} {F : Nat → Nat → Int32} {f : Nat → Option Nat} {wl : Int32} {len : Nat} {C : Nat → Int32} {P Wr : Nat → Nat → Int32} {V : Nat → Int32} {Lr Cr : Nat → Nat → Int32} {w : Nat → Int64} {mb nd : Nat → Int32} {a Nd : Nat} {Sd : Nat → Int32} {Fd : Nat → Nat → Int32} {H : HT}
theorem CLx.iq (h : CLx B N S F f wl len C P Wr V Lr Cr w mb nd a Nd Sd Fd H) : H = wQ B 1 N S F H := h.2.1.id
theorem CLx.ip (h : CLx B N S F f wl len C P Wr V Lr Cr w mb nd a Nd Sd Fd H) : H = wQ B 1 N S F (wA 16 3 (pob B 16 1) P H) := by rw [← h.2.2.2.1.id]; exact h.2.1.id
theorem CLx.iw (h : CLx B N S F f wl len C P Wr V Lr Cr w mb nd a Nd Sd Fd H) : H = wQ B 1 N S F (wA 20 2 (wob B 20 wl) Wr H) := by rw [← h.2.2.2.2.1.id]; exact h.2.1.id
theorem CLx.il (h : CLx B N S F f wl len C P Wr V Lr Cr w mb nd a Nd Sd Fd H) : H = wL B 1 N S F 23 V Lr H := by show H = wQ B 1 N S F (wA 23 3 (lob B 23 V) Lr H); rw [← h.2.2.2.2.2.1.id]; exact h.2.1.id
theorem CLx.iv (h : CLx B N S F f wl len C P Wr V Lr Cr w mb nd a Nd Sd Fd H) : H = wA 20 2 (wob B 20 wl) Wr H := h.2.2.2.2.1.id
theorem CLx.ic (h : CLx B N S F f wl len C P Wr V Lr Cr w mb nd a Nd Sd Fd H) : H = wA 27 3 (cob B 27) Cr H := h.2.2.2.2.2.2.1.id
theorem CLx.io (h : CLx B N S F f wl len C P Wr V Lr Cr w mb nd a Nd Sd Fd H) : H = wO B 31 w mb nd H := h.2.2.2.2.2.2.2.1.id
theorem CLx.cl (h : CLx B N S F f wl len C P Wr V Lr Cr w mb nd a Nd Sd Fd H) {pt : Nat → Int32} (hpt : Wr 0 = pt) : CL B N S F f wl pt len C H := ⟨P, Wr, V, Lr, Cr, w, mb, nd, a, Nd, Sd, Fd, h, hpt⟩
end
theorem tl_q {B N : Nat} {S : Nat → Int32} {F : Nat → Nat → Int32} {h H : HT} (t : tl51 h H) : tl51 h (wQ B 1 N S F H) := fun k hk => (wQ_n (by omega)).trans (t k hk)
theorem tl_a {o m : Nat} {obj : AE} {P : Nat → Nat → Int32} {h H : HT} (ho : o + 1 + m ≤ 51) (t : tl51 h H) : tl51 h (wA o m obj P H) := fun k hk => (wA_n (by omega)).trans (t k hk)
theorem tl_o {B : Nat} {w : Nat → Int64} {mb nd : Nat → Int32} {h H : HT} (t : tl51 h H) : tl51 h (wO B 31 w mb nd H) := fun k hk => (wO_n (by omega)).trans (t k hk)
theorem tl_x {B len a : Nat} {C : Nat → Int32} {N : Nat} {S : Nat → Int32} {F : Nat → Nat → Int32} {h H : HT} (t : tl51 h H) : tl51 h (wX B 35 len a C N S F H) := fun k hk => (wX_n (by omega)).trans (t k hk)
theorem tl_0 {h : HT} : tl51 h h := fun _ _ => rfl
def zWit (L : Nat) (pt : Nat → Int32) (x : Int32) : Int32 := if x < 0 then -2 else if x < nI L then pt (ix x) else -7
set_option maxHeartbeats 4000000 in
set_option maxRecDepth 100000 in
 theorem d_witness {G : GC} {B n N : Nat} {S : Nat → Int32} {F : Nat → Nat → Int32} {f : Nat → Option Nat} {L : Nat} {pt : Nat → Int32} {len : Nat} {C : Nat → Int32} {h : HT} (hL : L ≤ 20) (hC : CL B N S F f (nI L) pt len C h) (x : Int32) : CtJ G B M8_witness [.ref (B + 0), .int x] n h 0 0 (fun r2 n2 h2 => r2 = some (.int (zWit L pt x)) ∧ n2 = n ∧ CL B N S F f (nI L) pt len C h2 ∧ tl51 h h2) := by
  obtain ⟨P, Wr, V, Lr, Cr, w, mb, nd, a, Nd, Sd, Fd, hc, hpt⟩ := hC
  unfold CtJ
  refine jj_lv (lv' := [some (.ref (B + 0)), some (.int x)]) rfl ?_
  refine jj_s (pc' := 1) rfl rfl ?_
  refine jj_if_ge 7 rfl rfl (fun c1 => ?_) (fun c1 => ?_)
  · have c1 : ¬ x < 0 := Int32.not_lt.mpr c1
    refine jj_s (pc' := 8) rfl rfl ?_
    refine jj_s (pc' := 9) rfl rfl ?_
    refine jj_g rfl rfl hc.1 rfl ?_
    refine jj_g rfl rfl hc.2.2.2.2.1.1 rfl ?_
    refine jj_icmp_ge 30 rfl rfl (fun c2 => ?_) (fun c2 => ?_)
    · refine jj_s (pc' := 32) rfl rfl ?_
      exact jj_iret rfl rfl ⟨by rw [zWit, if_neg c1, if_neg (Int32.not_lt.mpr c2)]; rfl, rfl, hc.cl hpt, tl_0⟩
    · have c2 := Int32.not_le.mp c2
      obtain ⟨i, hi, rfl⟩ := nI_of c1
      have hiL := (nI_ltI (a := i) (b := L) (by omega) (by omega)).mp c2
      refine jj_s (pc' := 19) rfl rfl ?_
      refine jj_g rfl rfl hc.1 rfl ?_
      refine jj_g rfl rfl hc.2.2.2.2.1.1 rfl ?_
      refine jj_s (pc' := 26) rfl rfl ?_
      refine jj_ialdN rfl (hc.2.2.2.2.1.2 0 (by decide)) (by omega) rfl ?_
      refine jj_s (pc' := 32) rfl rfl ?_
      exact jj_iret rfl rfl ⟨by rw [zWit, if_neg c1, if_pos c2, ix_nI (by omega), ← hpt], rfl, hc.cl hpt, tl_0⟩
  · have c1 := Int32.not_le.mp c1
    refine jj_s (pc' := 6) rfl rfl ?_
    exact jj_iret rfl rfl ⟨by rw [zWit, if_pos c1]; rfl, rfl, hc.cl hpt, tl_0⟩
set_option maxHeartbeats 4000000 in
set_option maxRecDepth 100000 in
 theorem d_clear {G : GC} {B n N : Nat} {S : Nat → Int32} {F : Nat → Nat → Int32} {f : Nat → Option Nat} {wl : Int32} {pt : Nat → Int32} {len : Nat} {C : Nat → Int32} {h : HT} (hN : N ≤ 20) (hC : CL B N S F f wl pt len C h) : CtJ G B M8_clear [.ref (B + 0)] n h 0 0 (fun r2 n2 h2 => r2 = some (.int (nI N)) ∧ n2 = n ∧ CL B 0 S F f 0 pt len C h2 ∧ tl51 h h2) := by
  obtain ⟨P, Wr, V, Lr, Cr, w, mb, nd, a, Nd, Sd, Fd, hc, hpt⟩ := hC
  have hc1 := hc.q 0 S F
  unfold CtJ
  refine jj_lv (lv' := [some (.ref (B + 0)), none]) rfl ?_
  refine jj_s (pc' := 1) rfl rfl ?_
  refine jj_g rfl rfl hc.1 rfl ?_
  refine jj_g rfl rfl hc.2.1.1 rfl ?_
  refine jj_s (pc' := 8) rfl rfl ?_
  refine jj_s (pc' := 9) rfl rfl ?_
  refine jj_g rfl rfl hc.1 rfl ?_
  refine jj_h hc.iq ?_
  refine jj_w0 rfl rfl rfl wQ_o rfl rfl c_removeItems ?_
  refine jj_s (pc' := 16) rfl rfl ?_
  refine jj_g rfl rfl hc1.1 rfl ?_
  refine jj_h hc1.iv ?_
  refine jj_w0 rfl rfl rfl wA_o rfl rfl c_forget ?_
  refine jj_s (pc' := 23) rfl rfl ?_
  exact jj_iret rfl rfl ⟨rfl, rfl, (hc1.wi 0 Wr).cl hpt, tl_a (by omega) (tl_q tl_0)⟩
/-- the answer of a plan -/
def zPln (w p v : Int32) : Int32 := if (wth w 1 6 && wth p 0 2) = true then v else -2
set_option maxHeartbeats 4000000 in
set_option maxRecDepth 100000 in
 theorem d_planLength {G : GC} {B n N : Nat} {S : Nat → Int32} {F : Nat → Nat → Int32} {f : Nat → Option Nat} {wl : Int32} {pt : Nat → Int32} {len : Nat} {C : Nat → Int32} {h : HT} (hN : N ≤ 20) (hC : CL B N S F f wl pt len C h) (x p v : Int32) (hg : Nat → Int32) (hhg : ∀ P i, i < N → htS F N P 1 i = hg i) (hv : (wth x 1 6 && wth p 0 2) = true → ∀ Hh V Lr, (∀ i, i < N → Hh i = hg i) → (mkL F N Hh p 21 (mkV F N x V) Lr).1 0 = v) : CtJ G B M8_planLength [.ref (B + 0), .int x, .int p] n h 0 0 (fun r2 n2 h2 => r2 = some (.int (zPln x p v)) ∧ n2 = n ∧ CL B N S F f wl pt len C h2 ∧ tl51 h h2) := by
  obtain ⟨P, Wr, V, Lr, Cr, w, mb, nd, a, Nd, Sd, Fd, hc, hpt⟩ := hC
  unfold CtJ
  refine jj_lv (lv' := [some (.ref (B + 0)), some (.int x), some (.int p)]) rfl ?_
  have bad : (wth x 1 6 && wth p 0 2) = false → JJ X0 G B M8_planLength 19 [some (.ref (B + 0)), some (.int x), some (.int p)] [] n h 0 0 (fun r2 n2 h2 => r2 = some (.int (zPln x p v)) ∧ n2 = n ∧ CL B N S F f wl pt len C h2 ∧ tl51 h h2) := by
    intro hb
    refine jj_s (pc' := 21) rfl rfl ?_
    exact jj_iret rfl rfl ⟨by rw [zPln, if_neg (by rw [hb]; decide)]; rfl, rfl, hc.cl hpt, tl_0⟩
  refine jj_s (pc' := 1) rfl rfl ?_
  refine jj_s (pc' := 2) rfl rfl ?_
  refine jj_s (pc' := 4) rfl rfl ?_
  refine jj_t3 rfl rfl rfl rfl rfl (c_isWithin _ _ _) ?_
  refine jj_zT 19 rfl rfl (fun c1 => bad (by rw [show wth x 1 6 = false from c1]; rfl)) (fun c1 => ?_)
  refine jj_s (pc' := 11) rfl rfl ?_
  refine jj_s (pc' := 12) rfl rfl ?_
  refine jj_s (pc' := 13) rfl rfl ?_
  refine jj_t3 rfl rfl rfl rfl rfl (c_isWithin _ _ _) ?_
  refine jj_zF 22 rfl rfl (fun c2 => ?_) (fun c2 => bad (by rw [show wth p 0 2 = false from c2]; simp))
  have ok : (wth x 1 6 && wth p 0 2) = true := by rw [show wth x 1 6 = true from c1, show wth p 0 2 = true from c2]; rfl
  refine jj_s (pc' := 23) rfl rfl ?_
  refine jj_g rfl rfl hc.1 rfl ?_
  refine jj_s (pc' := 27) rfl rfl ?_
  refine jj_g rfl rfl hc.1 rfl ?_
  refine jj_s (pc' := 31) rfl rfl ?_
  refine jj_g rfl rfl hc.1 rfl ?_
  refine jj_h hc.ip ?_
  refine jj_v0 rfl rfl rfl (wQA_o (by omega)) rfl rfl (c_heights hN (by omega)) ?_
  have hc1 := (hc.p (htS F N P)).q N S F
  have hh1 := hc1.2.2.2.1.2 1 (by decide)
  refine jj_s (pc' := 38) rfl rfl ?_
  refine jj_s (pc' := 39) rfl rfl ?_
  refine jj_h hc1.il ?_
  refine jj_w4 rfl rfl rfl (wQA_o (by omega)) rfl rfl (c_make (a := 18) hN (by omega) hh1 (by omega) (by omega) _ _) ?_
  have hc2 := (hc1.l (mkL F N (htS F N P 1) p 21 (mkV F N x V) Lr).1 (mkL F N (htS F N P 1) p 21 (mkV F N x V) Lr).2).q N S F
  refine jj_s (pc' := 43) rfl rfl ?_
  refine jj_g rfl rfl hc2.1 rfl ?_
  refine jj_g rfl rfl (wQA_o (by omega)) rfl ?_
  exact jj_iret rfl rfl ⟨by rw [zPln, if_pos ok, hv ok _ _ _ (fun i hi => hhg P i hi)], rfl, hc2.cl hpt, tl_q (tl_a (by omega) (tl_q (tl_a (by omega) tl_0)))⟩
def zPlS (N : Nat) (F : Nat → Nat → Int32) (x w p v : Int32) : Int32 := if isN N x = true then (if (wth w 1 6 && wth p 0 2) = true then (if 3 ≤ F 5 (ix x) then -7 else v) else -2) else -1
set_option maxHeartbeats 4000000 in
set_option maxRecDepth 100000 in
 theorem d_planStart {G : GC} {B n N : Nat} {S : Nat → Int32} {F : Nat → Nat → Int32} {f : Nat → Option Nat} {wl : Int32} {pt : Nat → Int32} {len : Nat} {C : Nat → Int32} {h : HT} (hN : N ≤ 20) (hC : CL B N S F f wl pt len C h) (x y p v : Int32) (hg : Nat → Int32) (hhg : ∀ P i, i < N → htS F N P 1 i = hg i) (hv : isN N x = true → (wth y 1 6 && wth p 0 2) = true → ¬ 3 ≤ F 5 (ix x) → ∀ Hh V Lr, (∀ i, i < N → Hh i = hg i) → (mkL F N Hh p 21 (mkV F N y V) Lr).2 0 (ix x) = v) : CtJ G B M8_planStart [.ref (B + 0), .int x, .int y, .int p] n h 0 0 (fun r2 n2 h2 => r2 = some (.int (zPlS N F x y p v)) ∧ n2 = n ∧ CL B N S F f wl pt len C h2 ∧ tl51 h h2) := by
  obtain ⟨P, Wr, V, Lr, Cr, w, mb, nd, a, Nd, Sd, Fd, hc, hpt⟩ := hC
  unfold CtJ
  refine jj_lv (lv' := [some (.ref (B + 0)), some (.int x), some (.int y), some (.int p)]) rfl ?_
  refine jj_s (pc' := 1) rfl rfl ?_
  refine jj_g rfl rfl hc.1 rfl ?_
  refine jj_s (pc' := 5) rfl rfl ?_
  refine jj_h hc.iq ?_
  refine jj_v1 rfl rfl rfl wQ_o rfl rfl (c_holds _) ?_
  refine jj_h hc.iq.symm ?_
  refine jj_zF 13 rfl rfl (fun (c0 : isN N x = true) => ?_) (fun (c0 : isN N x = false) => ?_)
  · obtain ⟨i, hi, rfl⟩ := isN_of hN c0
    have bad : (wth y 1 6 && wth p 0 2) = false → JJ X0 G B M8_planStart 32 [some (.ref (B + 0)), some (.int (nI i)), some (.int y), some (.int p)] [] n h 0 0 (fun r2 n2 h2 => r2 = some (.int (zPlS N F (nI i) y p v)) ∧ n2 = n ∧ CL B N S F f wl pt len C h2 ∧ tl51 h h2) := by
      intro hb
      refine jj_s (pc' := 34) rfl rfl ?_
      exact jj_iret rfl rfl ⟨by rw [zPlS, if_pos c0, if_neg (by rw [hb]; decide)]; rfl, rfl, hc.cl hpt, tl_0⟩
    refine jj_s (pc' := 14) rfl rfl ?_
    refine jj_s (pc' := 15) rfl rfl ?_
    refine jj_s (pc' := 17) rfl rfl ?_
    refine jj_t3 rfl rfl rfl rfl rfl (c_isWithin _ _ _) ?_
    refine jj_zT 32 rfl rfl (fun c1 => bad (by rw [show wth y 1 6 = false from c1]; rfl)) (fun c1 => ?_)
    refine jj_s (pc' := 24) rfl rfl ?_
    refine jj_s (pc' := 25) rfl rfl ?_
    refine jj_s (pc' := 26) rfl rfl ?_
    refine jj_t3 rfl rfl rfl rfl rfl (c_isWithin _ _ _) ?_
    refine jj_zF 35 rfl rfl (fun c2 => ?_) (fun c2 => bad (by rw [show wth p 0 2 = false from c2]; simp))
    have ok : (wth y 1 6 && wth p 0 2) = true := by rw [show wth y 1 6 = true from c1, show wth p 0 2 = true from c2]; rfl
    refine jj_s (pc' := 36) rfl rfl ?_
    refine jj_g rfl rfl hc.1 rfl ?_
    refine jj_s (pc' := 40) rfl rfl ?_
    refine jj_h hc.iq ?_
    refine jj_v1 rfl rfl rfl wQ_o rfl rfl (c_hasEnded (by omega)) ?_
    refine jj_h hc.iq.symm ?_
    refine jj_zT 49 rfl rfl (fun c3 => ?_) (fun c3 => ?_)
    · have c3 := of_decide_eq_false c3
      refine jj_s (pc' := 50) rfl rfl ?_
      refine jj_g rfl rfl hc.1 rfl ?_
      refine jj_s (pc' := 54) rfl rfl ?_
      refine jj_g rfl rfl hc.1 rfl ?_
      refine jj_s (pc' := 58) rfl rfl ?_
      refine jj_g rfl rfl hc.1 rfl ?_
      refine jj_h hc.ip ?_
      refine jj_v0 rfl rfl rfl (wQA_o (by omega)) rfl rfl (c_heights hN (by omega)) ?_
      have hc1 := (hc.p (htS F N P)).q N S F
      have hh1 := hc1.2.2.2.1.2 1 (by decide)
      refine jj_s (pc' := 65) rfl rfl ?_
      refine jj_s (pc' := 66) rfl rfl ?_
      refine jj_h hc1.il ?_
      refine jj_w4 rfl rfl rfl (wQA_o (by omega)) rfl rfl (c_make (a := 18) hN (by omega) hh1 (by omega) (by omega) _ _) ?_
      have hc2 := (hc1.l (mkL F N (htS F N P 1) p 21 (mkV F N y V) Lr).1 (mkL F N (htS F N P 1) p 21 (mkV F N y V) Lr).2).q N S F
      refine jj_s (pc' := 70) rfl rfl ?_
      refine jj_g rfl rfl hc2.1 rfl ?_
      refine jj_g rfl rfl (wQA_o (by omega)) rfl ?_
      refine jj_s (pc' := 77) rfl rfl ?_
      refine jj_ald2 (o := 23) (j := 0) rfl (by decide) (by omega) (by omega) ?_
      have e := hv c0 ok (by rw [ix_nI (by omega)]; exact c3) (htS F N P 1) V Lr (fun i hi => hhg P i hi)
      rw [ix_nI (by omega)] at e
      exact jj_iret rfl rfl ⟨by rw [zPlS, if_pos c0, if_pos ok, ix_nI (by omega), if_neg c3, e], rfl, hc2.cl hpt, tl_q (tl_a (by omega) (tl_q (tl_a (by omega) tl_0)))⟩
    · refine jj_s (pc' := 48) rfl rfl ?_
      exact jj_iret rfl rfl ⟨by rw [zPlS, if_pos c0, if_pos ok, ix_nI (by omega), if_pos (of_decide_eq_true c3)]; rfl, rfl, hc.cl hpt, tl_0⟩
  · refine jj_s (pc' := 12) rfl rfl ?_
    exact jj_iret rfl rfl ⟨by rw [zPlS, if_neg (by rw [c0]; decide)]; rfl, rfl, hc.cl hpt, tl_0⟩
/-- the best number of workers up to k, and its length -/
def bwK (pl : Nat → Int32) : Nat → Int32 × Int32
  | 0 => (1, pl 1)
  | k + 1 => if pl (k + 2) < (bwK pl k).2 then (nI (k + 2), pl (k + 2)) else bwK pl k
set_option maxHeartbeats 4000000 in
set_option maxRecDepth 100000 in
 theorem d_bestWorkers {G : GC} {B n N : Nat} {S : Nat → Int32} {F : Nat → Nat → Int32} {f : Nat → Option Nat} {wl : Int32} {pt : Nat → Int32} {len : Nat} {C : Nat → Int32} {h : HT} (hN : N ≤ 20) (hC : CL B N S F f wl pt len C h) (p : Int32) (pl : Nat → Int32) (hg : Nat → Int32) (hhg : ∀ P i, i < N → htS F N P 1 i = hg i) (hv : wth p 0 2 = true → ∀ k, 1 ≤ k → k ≤ 6 → ∀ Hh V Lr, (∀ i, i < N → Hh i = hg i) → (mkL F N Hh p 21 (mkV F N (nI k) V) Lr).1 0 = pl k) : CtJ G B M8_bestWorkers [.ref (B + 0), .int p] n h 0 0 (fun r2 n2 h2 => r2 = some (.int (if wth p 0 2 = true then (bwK pl 5).1 else -2)) ∧ n2 = n ∧ CL B N S F f wl pt len C h2 ∧ tl51 h h2) := by
  obtain ⟨P, Wr, V, Lr, Cr, w, mb, nd, a, Nd, Sd, Fd, hc, hpt⟩ := hC
  unfold CtJ
  refine jj_lv (lv' := [some (.ref (B + 0)), some (.int p), none, none, none, none]) rfl ?_
  refine jj_s (pc' := 1) rfl rfl ?_
  refine jj_s (pc' := 2) rfl rfl ?_
  refine jj_s (pc' := 3) rfl rfl ?_
  refine jj_t3 rfl rfl rfl rfl rfl (c_isWithin _ _ _) ?_
  refine jj_zF 12 rfl rfl (fun (c1 : wth p 0 2 = true) => ?_) (fun (c1 : wth p 0 2 = false) => ?_)
  · rw [if_pos c1]
    refine jj_s (pc' := 13) rfl rfl ?_
    refine jj_g rfl rfl hc.1 rfl ?_
    refine jj_h hc.ip ?_
    refine jj_v0 rfl rfl rfl (wQA_o (by omega)) rfl rfl (c_heights hN (by omega)) ?_
    have hc1 := (hc.p (htS F N P)).q N S F
    have hh1 := hc1.2.2.2.1.2 1 (by decide)
    have ht1 : tl51 h (wQ B 1 N S F (wA 16 3 (pob B 16 1) (htS F N P) h)) := tl_q (tl_a (by omega) tl_0)
    have hag : ∀ i, i < N → htS F N P 1 i = hg i := fun i hi => hhg P i hi
    generalize htS F N P = P' at hc1 hh1 ht1 hag ⊢
    generalize wQ B 1 N S F (wA 16 3 (pob B 16 1) P' h) = H1 at hc1 hh1 ht1 ⊢
    refine jj_s (pc' := 20) rfl rfl ?_
    refine jj_s (pc' := 21) rfl rfl ?_
    refine jj_g rfl rfl hc1.1 rfl ?_
    refine jj_s (pc' := 25) rfl rfl ?_
    refine jj_g rfl rfl hc1.1 rfl ?_
    refine jj_s (pc' := 29) rfl rfl ?_
    refine jj_s (pc' := 30) rfl rfl ?_
    refine jj_s (pc' := 31) rfl rfl ?_
    refine jj_h hc1.il ?_
    refine jj_w4 rfl rfl rfl (wQA_o (by omega)) rfl rfl (c_make (a := 18) hN (by omega) hh1 (by omega) (by omega) _ _) ?_
    have hc2 := (hc1.l (mkL F N (P' 1) p 21 (mkV F N (nI 1) V) Lr).1 (mkL F N (P' 1) p 21 (mkV F N (nI 1) V) Lr).2).q N S F
    refine jj_s (pc' := 35) rfl rfl ?_
    refine jj_s (pc' := 36) rfl rfl ?_
    refine jj_s (pc' := 37) rfl rfl ?_
    refine jj_g rfl rfl hc2.1 rfl ?_
    refine jj_g rfl rfl (wQA_o (by omega)) rfl ?_
    refine jj_s (pc' := 45) rfl rfl ?_
    refine jj_s (pc' := 46) rfl rfl ?_
    refine jj_s (pc' := 48) rfl rfl ?_
    have e1 := hv c1 1 (by omega) (by omega) (P' 1) V Lr hag
    refine jj_lv (lv' := [some (.ref (B + 0)), some (.int p), some (.ref (B + 18)), some (.int (bwK pl 0).1), some (.int (bwK pl 0).2), some (.int (nI 2))]) (by rw [show (bwK pl 0).2 = _ from e1.symm]; rfl) ?_
    have L : ∀ d k V Lr, k + d = 5 → JJ X0 G B M8_bestWorkers 48 [some (.ref (B + 0)), some (.int p), some (.ref (B + 18)), some (.int (bwK pl k).1), some (.int (bwK pl k).2), some (.int (nI (k + 2)))] [] n (wL B 1 N S F 23 V Lr H1) 0 0 (fun r2 n2 h2 => r2 = some (.int ((bwK pl 5).1)) ∧ n2 = n ∧ CL B N S F f wl pt len C h2 ∧ tl51 h h2) := by
      intro d
      induction d with
      | zero =>
        intro k V Lr hk
        have hk : k = 5 := by omega
        subst hk
        refine jj_s (pc' := 50) rfl rfl ?_
        refine jj_s (pc' := 52) rfl rfl ?_
        refine jj_icmp_gt 100 rfl rfl (fun c => ?_) (fun c => absurd (by decide) c)
        refine jj_s (pc' := 101) rfl rfl ?_
        exact jj_iret rfl rfl ⟨rfl, rfl, ((hc1.l V Lr).q N S F).cl hpt, tl_q (tl_a (by omega) ht1)⟩
      | succ d ih =>
        intro k V Lr hk
        have hc2 := (hc1.l V Lr).q N S F
        refine jj_s (pc' := 50) rfl rfl ?_
        refine jj_s (pc' := 52) rfl rfl ?_
        refine jj_icmp_gt 100 rfl rfl (fun c => absurd ((nI_ltI (a := 6) (b := k + 2) (by omega) (by omega)).mp c) (by omega)) (fun c => ?_)
        refine jj_s (pc' := 56) rfl rfl ?_
        refine jj_g rfl rfl hc2.1 rfl ?_
        refine jj_s (pc' := 60) rfl rfl ?_
        refine jj_g rfl rfl hc2.1 rfl ?_
        refine jj_s (pc' := 64) rfl rfl ?_
        refine jj_s (pc' := 66) rfl rfl ?_
        refine jj_s (pc' := 67) rfl rfl ?_
        refine jj_w4 rfl rfl rfl (wQA_o (by omega)) rfl rfl (c_make (a := 18) hN (by omega) hh1 (by omega) (by omega) _ _) ?_
        have hc3 := (hc1.l (mkL F N (P' 1) p 21 (mkV F N (nI (k + 2)) V) Lr).1 (mkL F N (P' 1) p 21 (mkV F N (nI (k + 2)) V) Lr).2).q N S F
        have e2 := hv c1 (k + 2) (by omega) (by omega) (P' 1) V Lr hag
        refine jj_s (pc' := 71) rfl rfl ?_
        refine jj_g rfl rfl hc3.1 rfl ?_
        refine jj_g rfl rfl (wQA_o (by omega)) rfl ?_
        refine jj_s (pc' := 79) rfl rfl ?_
        rw [e2]
        refine jj_icmp_ge 94 rfl rfl (fun c2 => ?_) (fun c2 => ?_)
        · have e : bwK pl (k + 1) = bwK pl k := by rw [bwK, if_neg (Int32.not_lt.mpr c2)]
          first | refine jj_inc rfl rfl ?_ | refine jj_s (pc' := 97) rfl rfl ?_
          refine jj_s (pc' := 48) rfl rfl ?_
          refine jj_lv ?_ (ih (k + 1) _ _ (by omega))
          rw [e]; rfl
        · have e : bwK pl (k + 1) = (nI (k + 2), pl (k + 2)) := by rw [bwK, if_pos (Int32.not_le.mp c2)]
          refine jj_s (pc' := 84) rfl rfl ?_
          refine jj_s (pc' := 85) rfl rfl ?_
          refine jj_s (pc' := 86) rfl rfl ?_
          refine jj_g rfl rfl hc3.1 rfl ?_
          refine jj_g rfl rfl (wQA_o (by omega)) rfl ?_
          refine jj_s (pc' := 94) rfl rfl ?_
          first | refine jj_inc rfl rfl ?_ | refine jj_s (pc' := 97) rfl rfl ?_
          refine jj_s (pc' := 48) rfl rfl ?_
          rw [e2]
          refine jj_lv ?_ (ih (k + 1) _ _ (by omega))
          rw [e]; rfl
    exact L 5 0 _ _ (by omega)
  · rw [if_neg (by rw [c1]; decide)]
    refine jj_s (pc' := 11) rfl rfl ?_
    exact jj_iret rfl rfl ⟨rfl, rfl, hc.cl hpt, tl_0⟩
/-- the greatest height of those that have not ended -/
def gmK (F : Nat → Nat → Int32) (g : Nat → Int32) : Nat → Int32
  | 0 => 0
  | k + 1 => if 3 ≤ F 5 k then gmK F g k else (if gmK F g k < g k then g k else gmK F g k)
theorem gmK_cong {F : Nat → Nat → Int32} {g g' : Nat → Int32} {k : Nat} (h : ∀ i, i < k → g i = g' i) : gmK F g k = gmK F g' k := by
  induction k with
  | zero => rfl
  | succ k ih => rw [gmK, gmK, ih (fun i hi => h i (by omega)), h k (by omega)]
theorem tw_mx1 : Cond.static Lib.Math.max.name ∈ tW := tm3 118 rfl rfl
theorem tw_mx2 : Cond.initialized "java/lang/Math" ∈ tW := tm1 12 rfl rfl
theorem tw_mx3 : Cond.code Lib.Math.max.name Lib.Math.max.code 2 (some .int) ∈ tW := tm3 119 rfl rfl
theorem tw_mx0 : Cond.methodLink RX8 232 Lib.Math.max.name ∈ tW := tm3 117 rfl rfl
def zSlk (N : Nat) (F : Nat → Nat → Int32) (hg ld : Nat → Int32) (x : Int32) : Int32 := if isN N x = true then (if 3 ≤ F 5 (ix x) then -4 else gmK F hg N - hg (ix x) - ld (ix x)) else -1
set_option maxHeartbeats 4000000 in
set_option maxRecDepth 100000 in
 theorem d_slack {G : GC} {B n N : Nat} {S : Nat → Int32} {F : Nat → Nat → Int32} {f : Nat → Option Nat} {wl : Int32} {pt : Nat → Int32} {len : Nat} {C : Nat → Int32} {h : HT} (hN : N ≤ 20) (hC : CL B N S F f wl pt len C h) (x : Int32) (hg ld : Nat → Int32) (hhg : ∀ P i, i < N → htS F N P 1 i = hg i) (hld : ∀ P i, i < N → leS F N P 2 i = ld i) : CtJ G B M8_slack [.ref (B + 0), .int x] n h 0 0 (fun r2 n2 h2 => r2 = some (.int (zSlk N F hg ld x)) ∧ n2 = n ∧ CL B N S F f wl pt len C h2 ∧ tl51 h h2) := by
  obtain ⟨P, Wr, V, Lr, Cr, w, mb, nd, a, Nd, Sd, Fd, hc, hpt⟩ := hC
  unfold CtJ
  refine jj_lv (lv' := [some (.ref (B + 0)), some (.int x), none, none, none]) rfl ?_
  refine jj_s (pc' := 1) rfl rfl ?_
  refine jj_g rfl rfl hc.1 rfl ?_
  refine jj_s (pc' := 5) rfl rfl ?_
  refine jj_h hc.iq ?_
  refine jj_v1 rfl rfl rfl wQ_o rfl rfl (c_holds _) ?_
  refine jj_h hc.iq.symm ?_
  refine jj_zF 13 rfl rfl (fun (c0 : isN N x = true) => ?_) (fun (c0 : isN N x = false) => ?_)
  · obtain ⟨i, hi, rfl⟩ := isN_of hN c0
    refine jj_s (pc' := 14) rfl rfl ?_
    refine jj_g rfl rfl hc.1 rfl ?_
    refine jj_s (pc' := 18) rfl rfl ?_
    refine jj_h hc.iq ?_
    refine jj_v1 rfl rfl rfl wQ_o rfl rfl (c_hasEnded (by omega)) ?_
    refine jj_h hc.iq.symm ?_
    refine jj_zT 27 rfl rfl (fun c3 => ?_) (fun c3 => ?_)
    · have c3 := of_decide_eq_false c3
      refine jj_s (pc' := 28) rfl rfl ?_
      refine jj_g rfl rfl hc.1 rfl ?_
      refine jj_h hc.ip ?_
      refine jj_v0 rfl rfl rfl (wQA_o (by omega)) rfl rfl (c_heights hN (by omega)) ?_
      have hc1 := (hc.p (htS F N P)).q N S F
      have ht1 : tl51 h (wQ B 1 N S F (wA 16 3 (pob B 16 1) (htS F N P) h)) := tl_q (tl_a (by omega) tl_0)
      have hag : ∀ i, i < N → htS F N P 1 i = hg i := fun i hi => hhg P i hi
      generalize htS F N P = P' at hc1 ht1 hag ⊢
      refine jj_s (pc' := 35) rfl rfl ?_
      refine jj_s (pc' := 36) rfl rfl ?_
      refine jj_s (pc' := 37) rfl rfl ?_
      refine jj_s (pc' := 38) rfl rfl ?_
      refine jj_s (pc' := 40) rfl rfl ?_
      have L : ∀ d k, k ≤ N → N + 1 ≤ k + d → JJ X0 G B M8_slack 40 [some (.ref (B + 0)), some (.int (nI i)), some (.ref (B + 18)), some (.int (gmK F (P' 1) k)), some (.int (nI k))] [] n (wQ B 1 N S F (wA 16 3 (pob B 16 1) P' h)) 0 0 (fun r2 n2 h2 => r2 = some (.int (zSlk N F hg ld (nI i))) ∧ n2 = n ∧ CL B N S F f wl pt len C h2 ∧ tl51 h h2) := by
        intro d
        induction d with
        | zero => intro k h1 h2; exact absurd h2 (by omega)
        | succ d ih =>
          intro k h1 h2
          refine jj_s (pc' := 42) rfl rfl ?_
          refine jj_s (pc' := 43) rfl rfl ?_
          refine jj_g rfl rfl hc1.1 rfl ?_
          refine jj_g rfl rfl wQ_o rfl ?_
          refine jj_geN 79 rfl rfl (by omega) (by omega) (fun c => ?_) (fun c => ?_)
          · rw [show k = N by omega]
            refine jj_s (pc' := 80) rfl rfl ?_
            refine jj_s (pc' := 81) rfl rfl ?_
            refine jj_s (pc' := 82) rfl rfl ?_
            refine jj_ald2 (o := 16) (j := 1) rfl (by decide) (by omega) (by omega) ?_
            refine jj_s (pc' := 84) rfl rfl ?_
            refine jj_s (pc' := 85) rfl rfl ?_
            refine jj_g rfl rfl hc1.1 rfl ?_
            refine jj_v0 rfl rfl rfl (wQA_o (by omega)) rfl rfl (c_leads hN (by omega)) ?_
            refine jj_s (pc' := 92) rfl rfl ?_
            refine jj_ald2 (o := 16) (j := 2) rfl (by decide) (by omega) (by omega) ?_
            refine jj_s (pc' := 94) rfl rfl ?_
            exact jj_iret rfl rfl ⟨by rw [zSlk, if_pos c0, ix_nI (by omega), if_neg c3, hag i hi, hld P' i hi, gmK_cong hag], rfl, ((hc.p (leS F N P')).q N S F).cl hpt, tl_q (tl_a (by omega) tl_0)⟩
          · refine jj_s (pc' := 53) rfl rfl ?_
            refine jj_g rfl rfl hc1.1 rfl ?_
            refine jj_s (pc' := 58) rfl rfl ?_
            refine jj_v1 rfl rfl rfl wQ_o rfl rfl (c_hasEnded (by omega)) ?_
            refine jj_zF 73 rfl rfl (fun c4 => ?_) (fun c4 => ?_)
            · first | refine jj_inc rfl rfl ?_ | refine jj_s (pc' := 76) rfl rfl ?_
              refine jj_s (pc' := 40) rfl rfl ?_
              refine jj_lv ?_ (ih (k + 1) (by omega) (by omega))
              rw [gmK, if_pos (of_decide_eq_true c4)]; rfl
            · refine jj_s (pc' := 65) rfl rfl ?_
              refine jj_s (pc' := 66) rfl rfl ?_
              refine jj_s (pc' := 68) rfl rfl ?_
              refine jj_ald2 (o := 16) (j := 1) rfl (by decide) (by omega) (by omega) ?_
              refine jj_max rfl tw_mx0 tw_mx1 tw_mx2 tw_mx3 (by decide) (by decide) ?_
              refine jj_s (pc' := 73) rfl rfl ?_
              first | refine jj_inc rfl rfl ?_ | refine jj_s (pc' := 76) rfl rfl ?_
              refine jj_s (pc' := 40) rfl rfl ?_
              refine jj_lv ?_ (ih (k + 1) (by omega) (by omega))
              rw [gmK, if_neg (of_decide_eq_false c4)]; rfl
      exact L (N + 1) 0 (by omega) (by omega)
    · refine jj_s (pc' := 26) rfl rfl ?_
      exact jj_iret rfl rfl ⟨by rw [zSlk, if_pos c0, ix_nI (by omega), if_pos (of_decide_eq_true c3)]; rfl, rfl, hc.cl hpt, tl_0⟩
  · refine jj_s (pc' := 12) rfl rfl ?_
    exact jj_iret rfl rfl ⟨by rw [zSlk, if_neg (by rw [c0]; decide)]; rfl, rfl, hc.cl hpt, tl_0⟩
set_option maxHeartbeats 4000000 in
set_option maxRecDepth 100000 in
 theorem d_width {G : GC} {B n N : Nat} {S : Nat → Int32} {F : Nat → Nat → Int32} {f : Nat → Option Nat} {wl : Int32} {pt : Nat → Int32} {len : Nat} {C : Nat → Int32} {h : HT} (hN : N ≤ 20) (hC : CL B N S F f wl pt len C h) (v : Nat) (bf : Nat → Int32) (hbf : ∀ P i, i < N → bfS F N P 0 i = bf i) (hok : ∀ b2 O, (∀ i, i < N → b2 i = bf i) → (cvK b2 (une F N) O 20).2.2.2 = v ∧ ∀ k, k < 20 → bt (une F N) k = true → (∀ j p, (cvK b2 (une F N) O k).2.1 j = some p → p < 20) ∧ (∀ p j, (cvK b2 (une F N) O k).2.1 j = some p → (cvK b2 (une F N) O k).1 p = some j) ∧ (cvK b2 (une F N) O k).1 k = none) : CtJ G B M8_width [.ref (B + 0)] n h 0 0 (fun r2 n2 h2 => r2 = some (.int (bcF (une F N) - nI v)) ∧ n2 = n ∧ CL B N S F f wl pt len C h2 ∧ tl51 h h2) := by
  obtain ⟨P, Wr, V, Lr, Cr, w, mb, nd, a, Nd, Sd, Fd, hc, hpt⟩ := hC
  unfold CtJ
  refine jj_lv (lv' := [some (.ref (B + 0)), none]) rfl ?_
  refine jj_s (pc' := 1) rfl rfl ?_
  refine jj_g rfl rfl hc.1 rfl ?_
  refine jj_h hc.iq ?_
  refine jj_v0 rfl rfl rfl wQ_o rfl rfl (c_unendedSet hN) ?_
  refine jj_h hc.iq.symm ?_
  refine jj_st (st' := [.int (une F N)]) rfl ?_
  refine jj_s (pc' := 8) rfl rfl ?_
  refine jj_s (pc' := 9) rfl rfl ?_
  refine jj_t1 rfl rfl rfl rfl rfl (c_bitCount _) ?_
  refine jj_s (pc' := 13) rfl rfl ?_
  refine jj_g rfl rfl hc.1 rfl ?_
  refine jj_s (pc' := 17) rfl rfl ?_
  refine jj_s (pc' := 18) rfl rfl ?_
  refine jj_g rfl rfl hc.1 rfl ?_
  refine jj_h hc.ip ?_
  refine jj_v0 rfl rfl rfl (wQA_o (by omega)) rfl rfl (c_beforeSets hN (by omega)) ?_
  have hc1 := (hc.p (bfS F N P)).q N S F
  have hh1 := hc1.2.2.2.1.2 0 (by decide)
  obtain ⟨o1, o2⟩ := hok (bfS F N P 0) (Cr 2) (fun i hi => hbf P i hi)
  refine jj_h hc1.ic ?_
  refine jj_v2 rfl rfl rfl wA_o rfl rfl (c_countPairs (a := 17) hh1 (by omega) _ o2) ?_
  rw [o1]
  refine jj_s (pc' := 28) rfl rfl ?_
  exact jj_iret rfl rfl ⟨rfl, rfl, (hc1.c _).cl hpt, tl_a (by omega) (tl_q (tl_a (by omega) tl_0))⟩
theorem tw_l4 : Cond.constantLong RX8 252 (-4) ∈ tW := tm3 154 rfl rfl
set_option maxHeartbeats 4000000 in
set_option maxRecDepth 100000 in
 theorem d_orders {G : GC} {B n N : Nat} {S : Nat → Int32} {F : Nat → Nat → Int32} {f : Nat → Option Nat} {wl : Int32} {pt : Nat → Int32} {len : Nat} {C : Nat → Int32} {h : HT} (hN : N ≤ 20) (hC : CL B N S F f wl pt len C h) (v : Int64) (mm : Nat → Nat) (bf : Nat → Int32) (hbf : ∀ P i, i < N → bfS F N P 0 i = bf i) (hm : ∀ mb i, i < (lmK (une F N) mb 20).2 → (lmK (une F N) mb 20).1 i = nI (mm i) ∧ mm i < 20) (hv : bcF (une F N) ≤ 12 → ∀ b2 w mb nd, (∀ i, i < N → b2 i = bf i) → cwK (lnK b2 mm (lmK (une F N) mb 20).2 nd (lmK (une F N) mb 20).2) (lmK (une F N) mb 20).2 w (2 ^ (lmK (une F N) mb 20).2 - 1) (2 ^ (lmK (une F N) mb 20).2 - 1) = v) : CtJ G B M8_orders [.ref (B + 0)] n h 0 0 (fun r2 n2 h2 => r2 = some (.long (if bcF (une F N) ≤ 12 then v else -4)) ∧ n2 = n ∧ CL B N S F f wl pt len C h2 ∧ tl51 h h2) := by
  obtain ⟨P, Wr, V, Lr, Cr, w, mb, nd, a, Nd, Sd, Fd, hc, hpt⟩ := hC
  unfold CtJ
  refine jj_lv (lv' := [some (.ref (B + 0)), none]) rfl ?_
  refine jj_s (pc' := 1) rfl rfl ?_
  refine jj_g rfl rfl hc.1 rfl ?_
  refine jj_h hc.iq ?_
  refine jj_v0 rfl rfl rfl wQ_o rfl rfl (c_unendedSet hN) ?_
  refine jj_h hc.iq.symm ?_
  refine jj_st (st' := [.int (une F N)]) rfl ?_
  refine jj_s (pc' := 8) rfl rfl ?_
  refine jj_s (pc' := 9) rfl rfl ?_
  refine jj_t1 rfl rfl rfl rfl rfl (c_bitCount _) ?_
  refine jj_s (pc' := 14) rfl rfl ?_
  refine jj_icmp_le 21 rfl rfl (fun (c1 : bcF (une F N) ≤ 12) => ?_) (fun (c1 : ¬ bcF (une F N) ≤ 12) => ?_)
  · refine jj_s (pc' := 22) rfl rfl ?_
    refine jj_g rfl rfl hc.1 rfl ?_
    refine jj_s (pc' := 26) rfl rfl ?_
    refine jj_s (pc' := 27) rfl rfl ?_
    refine jj_g rfl rfl hc.1 rfl ?_
    refine jj_h hc.ip ?_
    refine jj_v0 rfl rfl rfl (wQA_o (by omega)) rfl rfl (c_beforeSets hN (by omega)) ?_
    have hc1 := (hc.p (bfS F N P)).q N S F
    have hh1 := hc1.2.2.2.1.2 0 (by decide)
    refine jj_h hc1.io ?_
    refine jj_v2 rfl rfl rfl wO_o rfl rfl (c_countFor (a := 17) _ mm (hm mb) hh1 (by omega)) ?_
    exact jj_lret rfl rfl ⟨by rw [if_pos c1, hv c1 _ _ _ _ (fun i hi => hbf P i hi)], rfl, (hc1.o _ _ _).cl hpt, tl_o (tl_q (tl_a (by omega) tl_0))⟩
  · refine jj_ldc2 rfl tw_l4 ?_
    exact jj_lret rfl rfl ⟨by rw [if_neg c1], rfl, hc.cl hpt, tl_0⟩
def zWri (len : Nat) (C : Nat → Int32) (x : Int32) : Int32 × Nat × (Nat → Int32) := if wth x 32 126 = true then (if len = 200 then (-3, len, C) else (nI (len + 1), len + 1, upd C len x)) else (-2, len, C)
set_option maxHeartbeats 4000000 in
set_option maxRecDepth 100000 in
 theorem d_write {G : GC} {B n N : Nat} {S : Nat → Int32} {F : Nat → Nat → Int32} {f : Nat → Option Nat} {wl : Int32} {pt : Nat → Int32} {len : Nat} {C : Nat → Int32} {h : HT} (hN : N ≤ 20) (hC : CL B N S F f wl pt len C h) (hl : len ≤ 200) (x : Int32) : CtJ G B M8_write [.ref (B + 0), .int x] n h 0 0 (fun r2 n2 h2 => r2 = some (.int ((zWri len C x).1)) ∧ n2 = n ∧ CL B N S F f wl pt (zWri len C x).2.1 (zWri len C x).2.2 h2 ∧ tl51 h h2) := by
  obtain ⟨P, Wr, V, Lr, Cr, w, mb, nd, a, Nd, Sd, Fd, hc, hpt⟩ := hC
  have hx := hc.2.2.2.2.2.2.2.2.1.1
  unfold CtJ
  refine jj_lv (lv' := [some (.ref (B + 0)), some (.int x)]) rfl ?_
  refine jj_s (pc' := 1) rfl rfl ?_
  refine jj_s (pc' := 3) rfl rfl ?_
  refine jj_s (pc' := 5) rfl rfl ?_
  refine jj_t3 rfl rfl rfl rfl rfl (c_isWithin _ _ _) ?_
  refine jj_zF 14 rfl rfl (fun (c1 : wth x 32 126 = true) => ?_) (fun (c1 : wth x 32 126 = false) => ?_)
  · refine jj_s (pc' := 15) rfl rfl ?_
    refine jj_g rfl rfl hc.1 rfl ?_
    refine jj_g rfl rfl hx rfl ?_
    refine jj_s (pc' := 24) rfl rfl ?_
    refine jj_icmp_lt 30 rfl rfl (fun c2 => ?_) (fun c2 => ?_)
    · have c2 := (nI_ltI (a := len) (b := 200) (by omega) (by omega)).mp c2
      have e : zWri len C x = (nI (len + 1), len + 1, upd C len x) := by rw [zWri, if_pos c1, if_neg (by omega)]
      have hc1 := hc.x (len + 1) a (upd C len x) Nd Sd Fd
      rw [e]
      refine jj_s (pc' := 31) rfl rfl ?_
      refine jj_g rfl rfl hc.1 rfl ?_
      refine jj_s (pc' := 35) rfl rfl ?_
      refine jj_h hc.xid ?_
      refine jj_w1 rfl rfl rfl wX_o rfl rfl (c_tappend c2 _) ?_
      refine jj_s (pc' := 39) rfl rfl ?_
      refine jj_g rfl rfl hc1.1 rfl ?_
      refine jj_g rfl rfl wX_o rfl ?_
      exact jj_iret rfl rfl ⟨rfl, rfl, hc1.cl hpt, tl_x tl_0⟩
    · have e : zWri len C x = (-3, len, C) := by
        rw [zWri, if_pos c1, if_pos]
        rcases Nat.lt_or_ge len 200 with z | z
        · exact absurd ((nI_ltI (a := len) (b := 200) (by omega) (by omega)).mpr z) c2
        · omega
      rw [e]
      refine jj_s (pc' := 29) rfl rfl ?_
      exact jj_iret rfl rfl ⟨rfl, rfl, hc.cl hpt, tl_0⟩
  · have e : zWri len C x = (-2, len, C) := by rw [zWri, if_neg (by rw [c1]; decide)]
    rw [e]
    refine jj_s (pc' := 13) rfl rfl ?_
    exact jj_iret rfl rfl ⟨rfl, rfl, hc.cl hpt, tl_0⟩
set_option maxHeartbeats 4000000 in
set_option maxRecDepth 100000 in
 theorem d_wipe {G : GC} {B n N : Nat} {S : Nat → Int32} {F : Nat → Nat → Int32} {f : Nat → Option Nat} {wl : Int32} {pt : Nat → Int32} {len : Nat} {C : Nat → Int32} {h : HT} (hN : N ≤ 20) (hC : CL B N S F f wl pt len C h) : CtJ G B M8_wipe [.ref (B + 0)] n h 0 0 (fun r2 n2 h2 => r2 = some (.int (nI len)) ∧ n2 = n ∧ CL B N S F f wl pt 0 C h2 ∧ tl51 h h2) := by
  obtain ⟨P, Wr, V, Lr, Cr, w, mb, nd, a, Nd, Sd, Fd, hc, hpt⟩ := hC
  have hc1 := hc.x 0 a C Nd Sd Fd
  unfold CtJ
  refine jj_lv (lv' := [some (.ref (B + 0)), none]) rfl ?_
  refine jj_h hc.xid ?_
  have dX : wX B 35 len a C Nd Sd Fd h 0 = some (dob B) := (wX_n (by omega)).trans hc.1
  refine jj_s (pc' := 1) rfl rfl ?_
  refine jj_g rfl rfl dX rfl ?_
  refine jj_g rfl rfl wX_o rfl ?_
  refine jj_s (pc' := 8) rfl rfl ?_
  refine jj_s (pc' := 9) rfl rfl ?_
  refine jj_g rfl rfl dX rfl ?_
  refine jj_s (pc' := 13) rfl rfl ?_
  refine jj_p rfl rfl rfl rfl wX_o rfl (jj_h (wX_po (len2 := 0) (at2 := a) rfl) ?_)
  refine jj_s (pc' := 17) rfl rfl ?_
  exact jj_iret rfl rfl ⟨rfl, rfl, hc1.cl hpt, tl_x tl_0⟩
set_option maxHeartbeats 4000000 in
set_option maxRecDepth 100000 in
 theorem d_fault {G : GC} {B n N : Nat} {S : Nat → Int32} {F : Nat → Nat → Int32} {f : Nat → Option Nat} {wl : Int32} {pt : Nat → Int32} {len : Nat} {C : Nat → Int32} {h : HT} (hN : N ≤ 20) (hC : CL B N S F f wl pt len C h) (hl : len ≤ 200) (v : Int32) (hv : ∀ Fd, (rdS C len Fd).1 = v) : CtJ G B M8_fault [.ref (B + 0)] n h 0 0 (fun r2 n2 h2 => r2 = some (.int (v)) ∧ n2 = n ∧ CL B N S F f wl pt len C h2 ∧ tl51 h h2) := by
  obtain ⟨P, Wr, V, Lr, Cr, w, mb, nd, a, Nd, Sd, Fd, hc, hpt⟩ := hC
  unfold CtJ
  refine jj_lv (lv' := [some (.ref (B + 0))]) rfl ?_
  refine jj_s (pc' := 1) rfl rfl ?_
  refine jj_g rfl rfl hc.1 rfl ?_
  refine jj_h hc.xid ?_
  refine jj_v0 rfl rfl rfl wX_o rfl rfl (c_read hl) ?_
  exact jj_iret rfl rfl ⟨by rw [hv Fd], rfl, (hc.x _ _ _ _ _ _).cl hpt, tl_x tl_0⟩
set_option maxHeartbeats 4000000 in
set_option maxRecDepth 100000 in
 theorem d_load {G : GC} {B n N : Nat} {S : Nat → Int32} {F : Nat → Nat → Int32} {f : Nat → Option Nat} {wl : Int32} {pt : Nat → Int32} {len : Nat} {C : Nat → Int32} {h : HT} (hN : N ≤ 20) (hC : CL B N S F f wl pt len C h) (hl : len ≤ 200) (v : Int32) (hv : ∀ Fd, (rdS C len Fd).1 = v ∧ (rdS C len Fd).2.1 ≤ 20) : CtJ G B M8_load [.ref (B + 0)] n h 0 0 (fun r2 n2 h2 => n2 = n ∧ tl51 h h2 ∧ if v = -7 then (∃ Fd, r2 = some (.int (nI (rdS C len Fd).2.1)) ∧ CL B (rdS C len Fd).2.1 S (stl S (rdS C len Fd).2.1 1000 (fun j => cp ((rdS C len Fd).2.2.1 j) (F j))) f 0 pt len C h2) else (r2 = some (.int (-4)) ∧ CL B N S F f wl pt len C h2)) := by
  obtain ⟨P, Wr, V, Lr, Cr, w, mb, nd, a, Nd, Sd, Fd, hc, hpt⟩ := hC
  obtain ⟨v1, v2⟩ := hv Fd
  have hc1 := hc.x len (rdS C len Fd).2.2.2 C (rdS C len Fd).2.1 Sd (rdS C len Fd).2.2.1
  have ht1 : tl51 h (wX B 35 len (rdS C len Fd).2.2.2 C (rdS C len Fd).2.1 Sd (rdS C len Fd).2.2.1 h) := tl_x tl_0
  unfold CtJ
  refine jj_lv (lv' := [some (.ref (B + 0))]) rfl ?_
  refine jj_s (pc' := 1) rfl rfl ?_
  refine jj_g rfl rfl hc.1 rfl ?_
  refine jj_h hc.xid ?_
  refine jj_v0 rfl rfl rfl wX_o rfl rfl (c_read hl) ?_
  rw [v1]
  refine jj_s (pc' := 9) rfl rfl ?_
  refine jj_icmp_eq 15 rfl rfl (fun (c1 : v = -7) => ?_) (fun (c1 : ¬ v = -7) => ?_)
  · refine jj_s (pc' := 16) rfl rfl ?_
    refine jj_g rfl rfl hc1.1 rfl ?_
    refine jj_s (pc' := 20) rfl rfl ?_
    refine jj_g rfl rfl hc1.1 rfl ?_
    refine jj_g rfl rfl wX_o rfl ?_
    refine jj_h hc1.iq ?_
    have h9 := hc1.2.2.2.2.2.2.2.2.2
    refine jj_w1 rfl rfl rfl wQ_o rfl rfl (c_copyItems (q2 := 36) (by omega) h9.1 h9.2) ?_
    have hc2 := hc1.q (rdS C len Fd).2.1 S (fun j => cp ((rdS C len Fd).2.2.1 j) (F j))
    refine jj_s (pc' := 30) rfl rfl ?_
    refine jj_g rfl rfl hc2.1 rfl ?_
    refine jj_w0 rfl rfl rfl wQ_o rfl rfl (c_settle v2) ?_
    have hc3 := hc1.q (rdS C len Fd).2.1 S (stl S (rdS C len Fd).2.1 1000 (fun j => cp ((rdS C len Fd).2.2.1 j) (F j)))
    refine jj_s (pc' := 37) rfl rfl ?_
    refine jj_g rfl rfl hc3.1 rfl ?_
    refine jj_h hc3.iv ?_
    refine jj_w0 rfl rfl rfl wA_o rfl rfl c_forget ?_
    have hc4 := hc3.wi 0 Wr
    refine jj_s (pc' := 44) rfl rfl ?_
    refine jj_g rfl rfl hc4.1 rfl ?_
    refine jj_g rfl rfl hc4.2.1.1 rfl ?_
    exact jj_iret rfl rfl ⟨rfl, tl_a (by omega) (tl_q ht1), by rw [if_pos c1]; exact ⟨Fd, rfl, hc4.cl hpt⟩⟩
  · refine jj_s (pc' := 14) rfl rfl ?_
    exact jj_iret rfl rfl ⟨rfl, ht1, by rw [if_neg c1]; exact ⟨rfl, hc1.cl hpt⟩⟩
