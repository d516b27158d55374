/-! link -/
def zCyc (N : Nat) (bf : Nat → Int32) (x y k : Int32) : Bool := (isN N x && isN N y) && (wth k 0 1 && (decide (x = y) || bt (bf (ix x)) (ix y)))
def zLnk (N : Nat) (S : Nat → Int32) (F : Nat → Nat → Int32) (bf : Nat → Int32) (x y k : Int32) : Int32 × (Nat → Nat → Int32) :=
  if (isN N x && isN N y) = true then (if wth k 0 1 = true then (if (decide (x = y) || bt (bf (ix x)) (ix y)) = true then (-5, F) else if F 5 (ix y) = 0 ∨ F 5 (ix y) = 1 then (sm (fun i => bcF (prd (stl S N 1000 (ptF F (ix x) (ix y) k)) i)) N, stl S N 1000 (ptF F (ix x) (ix y) k)) else (-4, F)) else (-2, F)) else (-1, F)
/-- what is left of the witness -/
def zWt (N : Nat) (F : Nat → Nat → Int32) (bf : Nat → Int32) (x y k : Int32) (wl wl' : Int32) (pt pt' : Nat → Int32) : Prop :=
  if zCyc N bf x y k = true then (wl' = nI (dsW F N (ix y) (ix x) + 1) ∧ ∀ j, j ≤ dsW F N (ix y) (ix x) → pt' j = nI (ptW F N (ix y) (ix x) (dsW F N (ix y) (ix x)) j)) else (wl' = wl ∧ pt' = pt)
set_option maxHeartbeats 4000000 in
set_option maxRecDepth 100000 in
 theorem d_link {G : GC} {B n N : Nat} {S : Nat → Int32} {F : Nat → Nat → Int32} {f : Nat → Option Nat} {wl : Int32} {pt : Nat → Int32} {len : Nat} {C : Nat → Int32} {h : HT} (hN : N ≤ 20) (hC : CL B N S F f wl pt len C h) (x y k : Int32) (bf : Nat → Int32) (hbf : ∀ P i, i < N → bfS F N P 0 i = bf i) (hD : zCyc N bf x y k = true → bt (rg F N (ix x) (dsW F N (ix y) (ix x))) (ix y) = true) : CtJ G B M8_link [.ref (B + 0), .int x, .int y, .int k] n h 0 0 (fun r2 n2 h2 => r2 = some (.int (zLnk N S F bf x y k).1) ∧ n2 = n ∧ tl51 h h2 ∧ ∃ wl' pt', CL B N S (zLnk N S F bf x y k).2 f wl' pt' len C h2 ∧ zWt N F bf x y k wl wl' pt pt') := by
  obtain ⟨P, Wr, V, Lr, Cr, w, mb, nd, a, Nd, Sd, Fd, hc, hpt⟩ := hC
  unfold CtJ
  refine jj_lv (lv' := [some (.ref (B + 0)), some (.int x), some (.int y), some (.int k)]) rfl ?_
  have bad : (isN N x && isN N y) = false → JJ X0 G B M8_link 22 [some (.ref (B + 0)), some (.int x), some (.int y), some (.int k)] [] n h 0 0 (fun r2 n2 h2 => r2 = some (.int (zLnk N S F bf x y k).1) ∧ n2 = n ∧ tl51 h h2 ∧ ∃ wl' pt', CL B N S (zLnk N S F bf x y k).2 f wl' pt' len C h2 ∧ zWt N F bf x y k wl wl' pt pt') := by
    intro hb
    have e : zLnk N S F bf x y k = (-1, F) := by rw [zLnk, if_neg (by rw [hb]; decide)]
    have e2 : zWt N F bf x y k wl wl pt pt := by unfold zWt; rw [if_neg (by rw [zCyc, hb]; simp)]; exact ⟨rfl, rfl⟩
    rw [e]
    refine jj_s (pc' := 23) rfl rfl ?_
    exact jj_iret rfl rfl ⟨rfl, rfl, tl_0, wl, pt, hc.cl hpt, e2⟩
  refine jj_s (pc' := 1) rfl rfl ?_
  refine jj_g rfl rfl hc.1 rfl ?_
  refine jj_s (pc' := 5) rfl rfl ?_
  refine jj_h hc.iq ?_
  refine jj_v1 rfl rfl rfl wQ_o rfl rfl (c_holds _) ?_
  refine jj_h hc.iq.symm ?_
  refine jj_zT 22 rfl rfl (fun c1 => bad (by rw [show isN N x = false from c1]; rfl)) (fun c1 => ?_)
  refine jj_s (pc' := 12) rfl rfl ?_
  refine jj_g rfl rfl hc.1 rfl ?_
  refine jj_s (pc' := 16) rfl rfl ?_
  refine jj_h hc.iq ?_
  refine jj_v1 rfl rfl rfl wQ_o rfl rfl (c_holds _) ?_
  refine jj_h hc.iq.symm ?_
  refine jj_zF 24 rfl rfl (fun c2 => ?_) (fun c2 => bad (by rw [show isN N y = false from c2]; simp))
  have ok : (isN N x && isN N y) = true := by rw [show isN N x = true from c1, show isN N y = true from c2]; rfl
  obtain ⟨i, hi, rfl⟩ := isN_of hN c1
  obtain ⟨j, hj, rfl⟩ := isN_of hN c2
  refine jj_s (pc' := 25) rfl rfl ?_
  refine jj_s (pc' := 26) rfl rfl ?_
  refine jj_s (pc' := 27) rfl rfl ?_
  refine jj_t3 rfl rfl rfl rfl rfl (c_isWithin _ _ _) ?_
  refine jj_zF 36 rfl rfl (fun (c3 : wth k 0 1 = true) => ?_) (fun (c3 : wth k 0 1 = false) => ?_)
  · have cyc : (decide ((nI i) = (nI j)) || bt (bf i) j) = true → ∀ P h1, CLx B N S F f wl len C P Wr V Lr Cr w mb nd a Nd Sd Fd h1 → tl51 h h1 → JJ X0 G B M8_link 57 [some (.ref (B + 0)), some (.int (nI i)), some (.int (nI j)), some (.int k)] [] n h1 0 0 (fun r2 n2 h2 => r2 = some (.int (zLnk N S F bf (nI i) (nI j) k).1) ∧ n2 = n ∧ tl51 h h2 ∧ ∃ wl' pt', CL B N S (zLnk N S F bf (nI i) (nI j) k).2 f wl' pt' len C h2 ∧ zWt N F bf (nI i) (nI j) k wl wl' pt pt') := by
      intro hb P h1 hc1 ht1
      have e : zLnk N S F bf (nI i) (nI j) k = (-5, F) := by rw [zLnk, if_pos ok, if_pos c3, ix_nI (by omega), ix_nI (by omega), if_pos hb]
      have e3 : zCyc N bf (nI i) (nI j) k = true := by rw [zCyc, ok, c3, ix_nI (by omega), ix_nI (by omega), hb]; rfl
      have hD := hD e3
      rw [ix_nI (by omega), ix_nI (by omega)] at hD
      rw [e]
      refine jj_s (pc' := 58) rfl rfl ?_
      refine jj_g rfl rfl hc1.1 rfl ?_
      refine jj_s (pc' := 62) rfl rfl ?_
      refine jj_g rfl rfl hc1.1 rfl ?_
      refine jj_s (pc' := 66) rfl rfl ?_
      refine jj_s (pc' := 67) rfl rfl ?_
      refine jj_h hc1.iw ?_
      refine jj_w3 rfl rfl rfl (wQA_o (by omega)) rfl rfl (c_remember hN (by omega) hj hi hD) ?_
      have hc2 := (hc1.wi (nI (dsW F N j i + 1)) (ptP F N j i (dsW F N j i) (rgP F N i Wr (dsW F N j i)) (dsW F N j i))).q N S F
      refine jj_s (pc' := 72) rfl rfl ?_
      refine jj_iret rfl rfl ⟨rfl, rfl, tl_q (tl_a (by omega) ht1), _, _, hc2.cl rfl, ?_⟩
      unfold zWt
      rw [if_pos e3, ix_nI (by omega), ix_nI (by omega)]
      exact ⟨rfl, (ptP_at _ _ _ _ _ _ _).1⟩
    refine jj_s (pc' := 37) rfl rfl ?_
    refine jj_s (pc' := 38) rfl rfl ?_
    refine jj_icmp_eq 57 rfl rfl (fun c4 => cyc (by simp [c4]) P h hc tl_0) (fun c4 => ?_)
    refine jj_s (pc' := 42) rfl rfl ?_
    refine jj_g rfl rfl hc.1 rfl ?_
    refine jj_h hc.ip ?_
    refine jj_v0 rfl rfl rfl (wQA_o (by omega)) rfl rfl (c_beforeSets hN (by omega)) ?_
    have hc1 := (hc.p (bfS F N P)).q N S F
    have ht1 : tl51 h (wQ B 1 N S F (wA 16 3 (pob B 16 1) (bfS F N P) h)) := tl_q (tl_a (by omega) tl_0)
    refine jj_s (pc' := 49) rfl rfl ?_
    refine jj_ald2 (o := 16) (j := 0) rfl (by decide) (by omega) (by omega) ?_
    rw [hbf P i hi]
    refine jj_s (pc' := 51) rfl rfl ?_
    refine jj_t2 rfl rfl rfl rfl rfl (c_has (by omega)) ?_
    refine jj_zT 73 rfl rfl (fun c5 => ?_) (fun c5 => cyc (by rw [c5]; simp) _ _ hc1 ht1)
    have ncy : ¬ (decide ((nI i) = (nI j)) || bt (bf i) j) = true := by rw [c5, decide_eq_false c4]; decide
    have e2 : ∀ wl pt, zWt N F bf (nI i) (nI j) k wl wl pt pt := by
      intro wl pt
      unfold zWt
      rw [if_neg (by rw [zCyc, ok, c3, ix_nI (by omega), ix_nI (by omega), Bool.true_and, Bool.true_and]; exact ncy)]
      exact ⟨rfl, rfl⟩
    refine jj_s (pc' := 74) rfl rfl ?_
    refine jj_g rfl rfl hc1.1 rfl ?_
    refine jj_s (pc' := 78) rfl rfl ?_
    refine jj_v1 rfl rfl rfl wQ_o rfl rfl (c_followsEdges (by omega)) ?_
    refine jj_zF 87 rfl rfl (fun c6 => ?_) (fun c6 => ?_)
    · have e : zLnk N S F bf (nI i) (nI j) k = (sm (fun a => bcF (prd (stl S N 1000 (ptF F i j k)) a)) N, stl S N 1000 (ptF F i j k)) := by rw [zLnk, if_pos ok, if_pos c3, ix_nI (by omega), ix_nI (by omega), if_neg ncy, if_pos (of_decide_eq_true c6)]
      rw [e]
      refine jj_s (pc' := 88) rfl rfl ?_
      refine jj_g rfl rfl hc1.1 rfl ?_
      refine jj_s (pc' := 92) rfl rfl ?_
      refine jj_s (pc' := 93) rfl rfl ?_
      refine jj_s (pc' := 94) rfl rfl ?_
      refine jj_w3 rfl rfl rfl wQ_o rfl rfl (c_putEdge (by omega) _) ?_
      have hc2 := (hc.p (bfS F N P)).q N S (ptF F i j k)
      refine jj_s (pc' := 98) rfl rfl ?_
      refine jj_g rfl rfl hc2.1 rfl ?_
      refine jj_w0 rfl rfl rfl wQ_o rfl rfl (c_settle hN) ?_
      have hc3 := (hc.p (bfS F N P)).q N S (stl S N 1000 (ptF F i j k))
      refine jj_s (pc' := 105) rfl rfl ?_
      refine jj_g rfl rfl hc3.1 rfl ?_
      refine jj_v0 rfl rfl rfl wQ_o rfl rfl (c_edgeCount hN) ?_
      exact jj_iret rfl rfl ⟨rfl, rfl, tl_q (tl_a (by omega) tl_0), _, _, hc3.cl hpt, e2 _ _⟩
    · have e : zLnk N S F bf (nI i) (nI j) k = (-4, F) := by rw [zLnk, if_pos ok, if_pos c3, ix_nI (by omega), ix_nI (by omega), if_neg ncy, if_neg (of_decide_eq_false c6)]
      rw [e]
      refine jj_s (pc' := 86) rfl rfl ?_
      exact jj_iret rfl rfl ⟨rfl, rfl, ht1, _, _, hc1.cl hpt, e2 _ _⟩
  · have e : zLnk N S F bf (nI i) (nI j) k = (-2, F) := by rw [zLnk, if_pos ok, if_neg (by rw [c3]; decide)]
    have e2 : zWt N F bf (nI i) (nI j) k wl wl pt pt := by unfold zWt; rw [if_neg (by rw [zCyc, ok, c3]; simp)]; exact ⟨rfl, rfl⟩
    rw [e]
    refine jj_s (pc' := 35) rfl rfl ?_
    exact jj_iret rfl rfl ⟨rfl, rfl, tl_0, wl, pt, hc.cl hpt, e2⟩
