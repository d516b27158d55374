/-! the class's calls: what they answer, and what they leave -/
def isN (N : Nat) (x : Int32) : Bool := decide (0 ≤ x ∧ x < nI N)
def ix (x : Int32) : Nat := x.toNatClampNeg
theorem ix_nI {i : Nat} (h : i < 2147483648) : ix (nI i) = i := nI_clamp h
theorem isN_of {N : Nat} (hN : N ≤ 20) {x : Int32} (h : isN N x = true) : ∃ i, i < N ∧ x = nI i := by
  have h := of_decide_eq_true h
  obtain ⟨j, h1, h2⟩ := nI_of (x := x) (Int32.not_lt.mpr h.1)
  subst h2
  exact ⟨j, (nI_ltI h1 (by omega)).mp h.2, rfl⟩
theorem isN_nI {N i : Nat} (hN : N ≤ 20) (h : i < N) : isN N (nI i) = true := decide_eq_true ⟨nI_pos' (by omega), nI_lt h (by omega)⟩
def wth (x a b : Int32) : Bool := decide (a ≤ x ∧ x ≤ b)
set_option maxHeartbeats 4000000 in
set_option maxRecDepth 100000 in
 theorem d_items {G : GC} {B n N : Nat} {S : Nat → Int32} {F : Nat → Nat → Int32} {f : Nat → Option Nat} {wl : Int32} {pt : Nat → Int32} {len : Nat} {C : Nat → Int32} {h : HT} (hN : N ≤ 20) (hC : CL B N S F f wl pt len C h) : CtJ G B M8_items [.ref (B + 0)] n h 0 0 (fun r2 n2 h2 => r2 = some (.int (nI N)) ∧ n2 = n ∧ CL B N S F f wl pt len C h2 ∧ tl51 h h2) := by
  obtain ⟨P, Wr, V, Lr, Cr, w, mb, nd, a, Nd, Sd, Fd, hc, hpt⟩ := hC
  have dO : ∀ N S F, wQ B 1 N S F h 0 = some (dob B) := fun N S F => (wQ_n (by omega)).trans hc.1
  have fin : ∀ N' S' F', CL B N' S' F' f wl pt len C (wQ B 1 N' S' F' h) ∧ tl51 h (wQ B 1 N' S' F' h) := fun N' S' F' => ⟨⟨P, Wr, V, Lr, Cr, w, mb, nd, a, Nd, Sd, Fd, hc.q _ _ _, hpt⟩, fun k hk => wQ_n (by omega)⟩
  unfold CtJ
  refine jj_lv (lv' := [some (.ref (B + 0))]) rfl ?_
  refine jj_h (h' := wQ B 1 N S F h) hc.2.1.id ?_
  refine jj_s (pc' := 1) rfl rfl ?_
  refine jj_g rfl rfl (dO _ _ _) rfl ?_
  refine jj_g rfl rfl wQ_o rfl ?_
  exact jj_iret rfl rfl ⟨rfl, rfl, fin _ _ _⟩
set_option maxHeartbeats 4000000 in
set_option maxRecDepth 100000 in
 theorem d_time {G : GC} {B n N : Nat} {S : Nat → Int32} {F : Nat → Nat → Int32} {f : Nat → Option Nat} {wl : Int32} {pt : Nat → Int32} {len : Nat} {C : Nat → Int32} {h : HT} (hN : N ≤ 20) (hC : CL B N S F f wl pt len C h) : CtJ G B M8_time [.ref (B + 0)] n h 0 0 (fun r2 n2 h2 => r2 = some (.int (S 1)) ∧ n2 = n ∧ CL B N S F f wl pt len C h2 ∧ tl51 h h2) := by
  obtain ⟨P, Wr, V, Lr, Cr, w, mb, nd, a, Nd, Sd, Fd, hc, hpt⟩ := hC
  have dO : ∀ N S F, wQ B 1 N S F h 0 = some (dob B) := fun N S F => (wQ_n (by omega)).trans hc.1
  have fin : ∀ N' S' F', CL B N' S' F' f wl pt len C (wQ B 1 N' S' F' h) ∧ tl51 h (wQ B 1 N' S' F' h) := fun N' S' F' => ⟨⟨P, Wr, V, Lr, Cr, w, mb, nd, a, Nd, Sd, Fd, hc.q _ _ _, hpt⟩, fun k hk => wQ_n (by omega)⟩
  unfold CtJ
  refine jj_lv (lv' := [some (.ref (B + 0))]) rfl ?_
  refine jj_h (h' := wQ B 1 N S F h) hc.2.1.id ?_
  refine jj_s (pc' := 1) rfl rfl ?_
  refine jj_g rfl rfl (dO _ _ _) rfl ?_
  refine jj_g rfl rfl wQ_o rfl ?_
  exact jj_iret rfl rfl ⟨rfl, rfl, fin _ _ _⟩
set_option maxHeartbeats 4000000 in
set_option maxRecDepth 100000 in
 theorem d_edges {G : GC} {B n N : Nat} {S : Nat → Int32} {F : Nat → Nat → Int32} {f : Nat → Option Nat} {wl : Int32} {pt : Nat → Int32} {len : Nat} {C : Nat → Int32} {h : HT} (hN : N ≤ 20) (hC : CL B N S F f wl pt len C h) : CtJ G B M8_edges [.ref (B + 0)] n h 0 0 (fun r2 n2 h2 => r2 = some (.int (sm (fun i => bcF (prd F i)) N)) ∧ n2 = n ∧ CL B N S F f wl pt len C h2 ∧ tl51 h h2) := by
  obtain ⟨P, Wr, V, Lr, Cr, w, mb, nd, a, Nd, Sd, Fd, hc, hpt⟩ := hC
  have dO : ∀ N S F, wQ B 1 N S F h 0 = some (dob B) := fun N S F => (wQ_n (by omega)).trans hc.1
  have fin : ∀ N' S' F', CL B N' S' F' f wl pt len C (wQ B 1 N' S' F' h) ∧ tl51 h (wQ B 1 N' S' F' h) := fun N' S' F' => ⟨⟨P, Wr, V, Lr, Cr, w, mb, nd, a, Nd, Sd, Fd, hc.q _ _ _, hpt⟩, fun k hk => wQ_n (by omega)⟩
  unfold CtJ
  refine jj_lv (lv' := [some (.ref (B + 0))]) rfl ?_
  refine jj_h (h' := wQ B 1 N S F h) hc.2.1.id ?_
  refine jj_s (pc' := 1) rfl rfl ?_
  refine jj_g rfl rfl (dO _ _ _) rfl ?_
  refine jj_v0 rfl rfl rfl wQ_o rfl rfl (c_edgeCount hN) ?_
  exact jj_iret rfl rfl ⟨rfl, rfl, fin _ _ _⟩
def zAdd (N : Nat) (S : Nat → Int32) (F : Nat → Nat → Int32) (p k t g d : Int32) : Int32 × Nat × (Nat → Nat → Int32) :=
  if (wth p 0 9 && wth k 1 20 && wth t 1 5 && wth g 0 3 && wth d 0 20) = true then (if N = 20 then (-3, N, F) else (nI N, N + 1, uF (uF (uF (apF F N p k t g d) 5 N 1) 6 N (S 1 + d)) 7 N (S 1))) else (-2, N, F)
set_option maxHeartbeats 4000000 in
set_option maxRecDepth 100000 in
 theorem d_add {G : GC} {B n N : Nat} {S : Nat → Int32} {F : Nat → Nat → Int32} {f : Nat → Option Nat} {wl : Int32} {pt : Nat → Int32} {len : Nat} {C : Nat → Int32} {h : HT} (hN : N ≤ 20) (hC : CL B N S F f wl pt len C h) (p k t g d : Int32) : CtJ G B M8_add [.ref (B + 0), .int p, .int k, .int t, .int g, .int d] n h 0 0 (fun r2 n2 h2 => r2 = some (.int ((zAdd N S F p k t g d).1)) ∧ n2 = n ∧ CL B (zAdd N S F p k t g d).2.1 S (zAdd N S F p k t g d).2.2 f wl pt len C h2 ∧ tl51 h h2) := by
  obtain ⟨P, Wr, V, Lr, Cr, w, mb, nd, a, Nd, Sd, Fd, hc, hpt⟩ := hC
  have dO : ∀ N S F, wQ B 1 N S F h 0 = some (dob B) := fun N S F => (wQ_n (by omega)).trans hc.1
  have fin : ∀ N' S' F', CL B N' S' F' f wl pt len C (wQ B 1 N' S' F' h) ∧ tl51 h (wQ B 1 N' S' F' h) := fun N' S' F' => ⟨⟨P, Wr, V, Lr, Cr, w, mb, nd, a, Nd, Sd, Fd, hc.q _ _ _, hpt⟩, fun k hk => wQ_n (by omega)⟩
  unfold CtJ
  refine jj_lv (lv' := [some (.ref (B + 0)), some (.int p), some (.int k), some (.int t), some (.int g), some (.int d), none, none]) rfl ?_
  refine jj_h (h' := wQ B 1 N S F h) hc.2.1.id ?_
  have bad : (wth p 0 9 && wth k 1 20 && wth t 1 5 && wth g 0 3 && wth d 0 20) = false → JJ X0 G B M8_add 54 [some (.ref (B + 0)), some (.int p), some (.int k), some (.int t), some (.int g), some (.int d), none, none] [] n (wQ B 1 N S F h) 0 0 (fun r2 n2 h2 => r2 = some (.int ((zAdd N S F p k t g d).1)) ∧ n2 = n ∧ CL B (zAdd N S F p k t g d).2.1 S (zAdd N S F p k t g d).2.2 f wl pt len C h2 ∧ tl51 h h2) := by
    intro hb
    have e : zAdd N S F p k t g d = (-2, N, F) := by rw [zAdd, if_neg (by rw [hb]; decide)]
    rw [e]
    refine jj_s (pc' := 55) rfl rfl ?_
    refine jj_s (pc' := 57) rfl rfl ?_
    refine jj_s (pc' := 59) rfl rfl ?_
    refine jj_if_ne 65 rfl rfl (fun c => absurd rfl c) (fun c => ?_)
    refine jj_s (pc' := 64) rfl rfl ?_
    exact jj_iret rfl rfl ⟨rfl, rfl, fin _ _ _⟩
  refine jj_s (pc' := 1) rfl rfl ?_
  refine jj_s (pc' := 2) rfl rfl ?_
  refine jj_s (pc' := 4) rfl rfl ?_
  refine jj_t3 rfl rfl rfl rfl rfl (c_isWithin _ _ _) ?_
  refine jj_zT 54 rfl rfl (fun c1 => bad (by rw [show wth p 0 9 = false from c1]; rfl)) (fun c1 => ?_)
  refine jj_s (pc' := 11) rfl rfl ?_
  refine jj_s (pc' := 12) rfl rfl ?_
  refine jj_s (pc' := 14) rfl rfl ?_
  refine jj_t3 rfl rfl rfl rfl rfl (c_isWithin _ _ _) ?_
  refine jj_zT 54 rfl rfl (fun c2 => bad (by rw [show wth k 1 20 = false from c2]; simp)) (fun c2 => ?_)
  refine jj_s (pc' := 21) rfl rfl ?_
  refine jj_s (pc' := 22) rfl rfl ?_
  refine jj_s (pc' := 23) rfl rfl ?_
  refine jj_t3 rfl rfl rfl rfl rfl (c_isWithin _ _ _) ?_
  refine jj_zT 54 rfl rfl (fun c3 => bad (by rw [show wth t 1 5 = false from c3]; simp)) (fun c3 => ?_)
  refine jj_s (pc' := 31) rfl rfl ?_
  refine jj_s (pc' := 32) rfl rfl ?_
  refine jj_s (pc' := 33) rfl rfl ?_
  refine jj_t3 rfl rfl rfl rfl rfl (c_isWithin _ _ _) ?_
  refine jj_zT 54 rfl rfl (fun c4 => bad (by rw [show wth g 0 3 = false from c4]; simp)) (fun c4 => ?_)
  refine jj_s (pc' := 41) rfl rfl ?_
  refine jj_s (pc' := 42) rfl rfl ?_
  refine jj_s (pc' := 44) rfl rfl ?_
  refine jj_t3 rfl rfl rfl rfl rfl (c_isWithin _ _ _) ?_
  refine jj_zT 54 rfl rfl (fun c5 => bad (by rw [show wth d 0 20 = false from c5]; simp)) (fun c5 => ?_)
  have ok : (wth p 0 9 && wth k 1 20 && wth t 1 5 && wth g 0 3 && wth d 0 20) = true := by rw [show wth p 0 9 = true from c1, show wth k 1 20 = true from c2, show wth t 1 5 = true from c3, show wth g 0 3 = true from c4, show wth d 0 20 = true from c5]; rfl
  refine jj_s (pc' := 51) rfl rfl ?_
  refine jj_s (pc' := 55) rfl rfl ?_
  refine jj_s (pc' := 57) rfl rfl ?_
  refine jj_s (pc' := 59) rfl rfl ?_
  refine jj_if_ne 65 rfl rfl (fun c => ?_) (fun c => absurd c (by decide))
  refine jj_s (pc' := 66) rfl rfl ?_
  refine jj_g rfl rfl (dO _ _ _) rfl ?_
  refine jj_v0 rfl rfl rfl wQ_o rfl rfl c_isFull ?_
  refine jj_zT 78 rfl rfl (fun c6 => ?_) (fun c6 => ?_)
  · have hlt : N < 20 := by
      rcases Nat.lt_or_ge N 20 with z | z
      · exact z
      · exact absurd (nI_le (a := 20) (b := N) z (by omega)) (of_decide_eq_false c6)
    have e : zAdd N S F p k t g d = (nI N, N + 1, uF (uF (uF (apF F N p k t g d) 5 N 1) 6 N (S 1 + d)) 7 N (S 1)) := by rw [zAdd, if_pos ok, if_neg (by omega)]
    rw [e]
    refine jj_s (pc' := 79) rfl rfl ?_
    refine jj_g rfl rfl (dO _ _ _) rfl ?_
    refine jj_s (pc' := 83) rfl rfl ?_
    refine jj_s (pc' := 84) rfl rfl ?_
    refine jj_s (pc' := 85) rfl rfl ?_
    refine jj_s (pc' := 87) rfl rfl ?_
    refine jj_s (pc' := 89) rfl rfl ?_
    refine jj_v5 rfl rfl rfl wQ_o rfl rfl (c_append hlt _ _ _ _ _) ?_
    refine jj_s (pc' := 94) rfl rfl ?_
    refine jj_s (pc' := 95) rfl rfl ?_
    refine jj_g rfl rfl (dO _ _ _) rfl ?_
    refine jj_s (pc' := 100) rfl rfl ?_
    refine jj_s (pc' := 102) rfl rfl ?_
    refine jj_w2 rfl rfl rfl wQ_o rfl rfl (c_makeReady hlt _) ?_
    refine jj_s (pc' := 107) rfl rfl ?_
    exact jj_iret rfl rfl ⟨rfl, rfl, fin _ _ _⟩
  · have hlt : N = 20 := by have := (nI_leI (a := 20) (b := N) (by omega) (by omega)).mp (of_decide_eq_true c6); omega
    have e : zAdd N S F p k t g d = (-3, N, F) := by rw [zAdd, if_pos ok, if_pos hlt]
    rw [e]
    refine jj_s (pc' := 77) rfl rfl ?_
    exact jj_iret rfl rfl ⟨rfl, rfl, fin _ _ _⟩
def zUnl (N : Nat) (S : Nat → Int32) (F : Nat → Nat → Int32) (x y : Int32) : Int32 × (Nat → Nat → Int32) :=
  if (isN N x && isN N y) = true then (if bt (prd F (ix y)) (ix x) = true ∧ (F 5 (ix y) = 0 ∨ F 5 (ix y) = 1) then (sm (fun i => bcF (prd (stl S N 1000 (drF F (ix x) (ix y))) i)) N, stl S N 1000 (drF F (ix x) (ix y))) else (-4, F)) else (-1, F)
set_option maxHeartbeats 4000000 in
set_option maxRecDepth 100000 in
 theorem d_unlink {G : GC} {B n N : Nat} {S : Nat → Int32} {F : Nat → Nat → Int32} {f : Nat → Option Nat} {wl : Int32} {pt : Nat → Int32} {len : Nat} {C : Nat → Int32} {h : HT} (hN : N ≤ 20) (hC : CL B N S F f wl pt len C h) (x y : Int32) : CtJ G B M8_unlink [.ref (B + 0), .int x, .int y] n h 0 0 (fun r2 n2 h2 => r2 = some (.int ((zUnl N S F x y).1)) ∧ n2 = n ∧ CL B N S (zUnl N S F x y).2 f wl pt len C h2 ∧ tl51 h h2) := by
  obtain ⟨P, Wr, V, Lr, Cr, w, mb, nd, a, Nd, Sd, Fd, hc, hpt⟩ := hC
  have dO : ∀ N S F, wQ B 1 N S F h 0 = some (dob B) := fun N S F => (wQ_n (by omega)).trans hc.1
  have fin : ∀ N' S' F', CL B N' S' F' f wl pt len C (wQ B 1 N' S' F' h) ∧ tl51 h (wQ B 1 N' S' F' h) := fun N' S' F' => ⟨⟨P, Wr, V, Lr, Cr, w, mb, nd, a, Nd, Sd, Fd, hc.q _ _ _, hpt⟩, fun k hk => wQ_n (by omega)⟩
  unfold CtJ
  refine jj_lv (lv' := [some (.ref (B + 0)), some (.int x), some (.int y)]) rfl ?_
  refine jj_h (h' := wQ B 1 N S F h) hc.2.1.id ?_
  have bad : (isN N x && isN N y) = false → JJ X0 G B M8_unlink 22 [some (.ref (B + 0)), some (.int x), some (.int y)] [] n (wQ B 1 N S F h) 0 0 (fun r2 n2 h2 => r2 = some (.int ((zUnl N S F x y).1)) ∧ n2 = n ∧ CL B N S (zUnl N S F x y).2 f wl pt len C h2 ∧ tl51 h h2) := by
    intro hb
    have e : zUnl N S F x y = (-1, F) := by rw [zUnl, if_neg (by rw [hb]; decide)]
    rw [e]
    refine jj_s (pc' := 23) rfl rfl ?_
    exact jj_iret rfl rfl ⟨rfl, rfl, fin _ _ _⟩
  refine jj_s (pc' := 1) rfl rfl ?_
  refine jj_g rfl rfl (dO _ _ _) rfl ?_
  refine jj_s (pc' := 5) rfl rfl ?_
  refine jj_v1 rfl rfl rfl wQ_o rfl rfl (c_holds _) ?_
  refine jj_zT 22 rfl rfl (fun c1 => bad (by rw [show isN N x = false from c1]; rfl)) (fun c1 => ?_)
  refine jj_s (pc' := 12) rfl rfl ?_
  refine jj_g rfl rfl (dO _ _ _) rfl ?_
  refine jj_s (pc' := 16) rfl rfl ?_
  refine jj_v1 rfl rfl rfl wQ_o rfl rfl (c_holds _) ?_
  refine jj_zF 24 rfl rfl (fun c2 => ?_) (fun c2 => bad (by rw [show isN N y = false from c2]; simp))
  have ok : (isN N x && isN N y) = true := by rw [show isN N x = true from c1, show isN N y = true from c2]; rfl
  obtain ⟨i, hi, rfl⟩ := isN_of hN c1
  obtain ⟨j, hj, rfl⟩ := isN_of hN c2
  have no : ¬ (bt (prd F j) i = true ∧ (F 5 j = 0 ∨ F 5 j = 1)) → JJ X0 G B M8_unlink 50 [some (.ref (B + 0)), some (.int (nI i)), some (.int (nI j))] [] n (wQ B 1 N S F h) 0 0 (fun r2 n2 h2 => r2 = some (.int ((zUnl N S F (nI i) (nI j)).1)) ∧ n2 = n ∧ CL B N S (zUnl N S F (nI i) (nI j)).2 f wl pt len C h2 ∧ tl51 h h2) := by
    intro hb
    have e : zUnl N S F (nI i) (nI j) = (-4, F) := by rw [zUnl, if_pos ok, ix_nI (by omega), ix_nI (by omega), if_neg hb]
    rw [e]
    refine jj_s (pc' := 52) rfl rfl ?_
    exact jj_iret rfl rfl ⟨rfl, rfl, fin _ _ _⟩
  refine jj_s (pc' := 25) rfl rfl ?_
  refine jj_g rfl rfl (dO _ _ _) rfl ?_
  refine jj_s (pc' := 29) rfl rfl ?_
  refine jj_v1 rfl rfl rfl wQ_o rfl rfl (c_predecessors (by omega)) ?_
  refine jj_s (pc' := 33) rfl rfl ?_
  refine jj_t2 rfl rfl rfl rfl rfl (c_has (by omega)) ?_
  refine jj_zT 50 rfl rfl (fun c3 => no (fun z => by rw [c3] at z; cases z.1)) (fun c3 => ?_)
  refine jj_s (pc' := 40) rfl rfl ?_
  refine jj_g rfl rfl (dO _ _ _) rfl ?_
  refine jj_s (pc' := 44) rfl rfl ?_
  refine jj_v1 rfl rfl rfl wQ_o rfl rfl (c_followsEdges (by omega)) ?_
  refine jj_zF 53 rfl rfl (fun c4 => ?_) (fun c4 => no (fun z => of_decide_eq_false c4 z.2))
  have e : zUnl N S F (nI i) (nI j) = (sm (fun k => bcF (prd (stl S N 1000 (drF F i j)) k)) N, stl S N 1000 (drF F i j)) := by rw [zUnl, if_pos ok, ix_nI (by omega), ix_nI (by omega), if_pos ⟨c3, of_decide_eq_true c4⟩]
  rw [e]
  refine jj_s (pc' := 54) rfl rfl ?_
  refine jj_g rfl rfl (dO _ _ _) rfl ?_
  refine jj_s (pc' := 58) rfl rfl ?_
  refine jj_s (pc' := 59) rfl rfl ?_
  refine jj_w2 rfl rfl rfl wQ_o rfl rfl (c_dropEdge (by omega)) ?_
  refine jj_s (pc' := 63) rfl rfl ?_
  refine jj_g rfl rfl (dO _ _ _) rfl ?_
  refine jj_w0 rfl rfl rfl wQ_o rfl rfl (c_settle hN) ?_
  refine jj_s (pc' := 70) rfl rfl ?_
  refine jj_g rfl rfl (dO _ _ _) rfl ?_
  refine jj_v0 rfl rfl rfl wQ_o rfl rfl (c_edgeCount hN) ?_
  exact jj_iret rfl rfl ⟨rfl, rfl, fin _ _ _⟩
def zPri (N : Nat) (F : Nat → Nat → Int32) (x p : Int32) : Int32 × (Nat → Nat → Int32) :=
  if isN N x = true then (if wth p 0 9 = true then (if 3 ≤ F 5 (ix x) then (-4, F) else (F 0 (ix x), uF F 0 (ix x) p)) else (-2, F)) else (-1, F)
set_option maxHeartbeats 4000000 in
set_option maxRecDepth 100000 in
 theorem d_setPriority {G : GC} {B n N : Nat} {S : Nat → Int32} {F : Nat → Nat → Int32} {f : Nat → Option Nat} {wl : Int32} {pt : Nat → Int32} {len : Nat} {C : Nat → Int32} {h : HT} (hN : N ≤ 20) (hC : CL B N S F f wl pt len C h) (x p : Int32) : CtJ G B M8_setPriority [.ref (B + 0), .int x, .int p] n h 0 0 (fun r2 n2 h2 => r2 = some (.int ((zPri N F x p).1)) ∧ n2 = n ∧ CL B N S (zPri N F x p).2 f wl pt len C h2 ∧ tl51 h h2) := by
  obtain ⟨P, Wr, V, Lr, Cr, w, mb, nd, a, Nd, Sd, Fd, hc, hpt⟩ := hC
  have dO : ∀ N S F, wQ B 1 N S F h 0 = some (dob B) := fun N S F => (wQ_n (by omega)).trans hc.1
  have fin : ∀ N' S' F', CL B N' S' F' f wl pt len C (wQ B 1 N' S' F' h) ∧ tl51 h (wQ B 1 N' S' F' h) := fun N' S' F' => ⟨⟨P, Wr, V, Lr, Cr, w, mb, nd, a, Nd, Sd, Fd, hc.q _ _ _, hpt⟩, fun k hk => wQ_n (by omega)⟩
  unfold CtJ
  refine jj_lv (lv' := [some (.ref (B + 0)), some (.int x), some (.int p), none]) rfl ?_
  refine jj_h (h' := wQ B 1 N S F h) hc.2.1.id ?_
  refine jj_s (pc' := 1) rfl rfl ?_
  refine jj_g rfl rfl (dO _ _ _) rfl ?_
  refine jj_s (pc' := 5) rfl rfl ?_
  refine jj_v1 rfl rfl rfl wQ_o rfl rfl (c_holds _) ?_
  refine jj_zF 13 rfl rfl (fun c1 => ?_) (fun c1 => ?_)
  · have c1 : isN N x = true := c1
    obtain ⟨i, hi, rfl⟩ := isN_of hN c1
    refine jj_s (pc' := 14) rfl rfl ?_
    refine jj_s (pc' := 15) rfl rfl ?_
    refine jj_s (pc' := 17) rfl rfl ?_
    refine jj_t3 rfl rfl rfl rfl rfl (c_isWithin _ _ _) ?_
    refine jj_zF 26 rfl rfl (fun (c2 : wth p 0 9 = true) => ?_) (fun (c2 : wth p 0 9 = false) => ?_)
    · refine jj_s (pc' := 27) rfl rfl ?_
      refine jj_g rfl rfl (dO _ _ _) rfl ?_
      refine jj_s (pc' := 31) rfl rfl ?_
      refine jj_v1 rfl rfl rfl wQ_o rfl rfl (c_hasEnded (by omega)) ?_
      refine jj_zT 40 rfl rfl (fun c3 => ?_) (fun c3 => ?_)
      · have e : zPri N F (nI i) p = (F 0 i, uF F 0 i p) := by rw [zPri, if_pos c1, if_pos c2, ix_nI (by omega), if_neg (of_decide_eq_false c3)]
        rw [e]
        refine jj_s (pc' := 41) rfl rfl ?_
        refine jj_g rfl rfl (dO _ _ _) rfl ?_
        refine jj_g rfl rfl wQ_o rfl ?_
        refine jj_s (pc' := 48) rfl rfl ?_
        refine jj_qld [] rfl rfl (by decide) (by first | assumption | omega) ?_
        refine jj_s (pc' := 50) rfl rfl ?_
        refine jj_s (pc' := 51) rfl rfl ?_
        refine jj_g rfl rfl (dO _ _ _) rfl ?_
        refine jj_g rfl rfl wQ_o rfl ?_
        refine jj_s (pc' := 58) rfl rfl ?_
        refine jj_s (pc' := 59) rfl rfl ?_
        refine jj_qst [] rfl rfl (by decide) (by first | assumption | omega) ?_
        refine jj_s (pc' := 61) rfl rfl ?_
        exact jj_iret rfl rfl ⟨rfl, rfl, fin _ _ _⟩
      · have e : zPri N F (nI i) p = (-4, F) := by rw [zPri, if_pos c1, if_pos c2, ix_nI (by omega), if_pos (of_decide_eq_true c3)]
        rw [e]
        refine jj_s (pc' := 39) rfl rfl ?_
        exact jj_iret rfl rfl ⟨rfl, rfl, fin _ _ _⟩
    · have e : zPri N F (nI i) p = (-2, F) := by rw [zPri, if_pos c1, if_neg (by rw [c2]; decide)]
      rw [e]
      refine jj_s (pc' := 25) rfl rfl ?_
      exact jj_iret rfl rfl ⟨rfl, rfl, fin _ _ _⟩
  · have c1 : isN N x = false := c1
    have e : zPri N F x p = (-1, F) := by rw [zPri, if_neg (by rw [c1]; decide)]
    rw [e]
    refine jj_s (pc' := 12) rfl rfl ?_
    exact jj_iret rfl rfl ⟨rfl, rfl, fin _ _ _⟩
def zPol (S : Nat → Int32) (x : Int32) : Int32 × (Nat → Int32) := if wth x 0 2 = true then (S 2, upd S 2 x) else (-2, S)
set_option maxHeartbeats 4000000 in
set_option maxRecDepth 100000 in
 theorem d_setPolicy {G : GC} {B n N : Nat} {S : Nat → Int32} {F : Nat → Nat → Int32} {f : Nat → Option Nat} {wl : Int32} {pt : Nat → Int32} {len : Nat} {C : Nat → Int32} {h : HT} (hN : N ≤ 20) (hC : CL B N S F f wl pt len C h) (x : Int32) : CtJ G B M8_setPolicy [.ref (B + 0), .int x] n h 0 0 (fun r2 n2 h2 => r2 = some (.int ((zPol S x).1)) ∧ n2 = n ∧ CL B N (zPol S x).2 F f wl pt len C h2 ∧ tl51 h h2) := by
  obtain ⟨P, Wr, V, Lr, Cr, w, mb, nd, a, Nd, Sd, Fd, hc, hpt⟩ := hC
  have dO : ∀ N S F, wQ B 1 N S F h 0 = some (dob B) := fun N S F => (wQ_n (by omega)).trans hc.1
  have fin : ∀ N' S' F', CL B N' S' F' f wl pt len C (wQ B 1 N' S' F' h) ∧ tl51 h (wQ B 1 N' S' F' h) := fun N' S' F' => ⟨⟨P, Wr, V, Lr, Cr, w, mb, nd, a, Nd, Sd, Fd, hc.q _ _ _, hpt⟩, fun k hk => wQ_n (by omega)⟩
  unfold CtJ
  refine jj_lv (lv' := [some (.ref (B + 0)), some (.int x), none]) rfl ?_
  refine jj_h (h' := wQ B 1 N S F h) hc.2.1.id ?_
  refine jj_s (pc' := 1) rfl rfl ?_
  refine jj_s (pc' := 2) rfl rfl ?_
  refine jj_s (pc' := 3) rfl rfl ?_
  refine jj_t3 rfl rfl rfl rfl rfl (c_isWithin _ _ _) ?_
  refine jj_zF 12 rfl rfl (fun (c2 : wth x 0 2 = true) => ?_) (fun (c2 : wth x 0 2 = false) => ?_)
  · have e : zPol S x = (S 2, upd S 2 x) := by rw [zPol, if_pos c2]
    rw [e]
    refine jj_s (pc' := 13) rfl rfl ?_
    refine jj_g rfl rfl (dO _ _ _) rfl ?_
    refine jj_g rfl rfl wQ_o rfl ?_
    refine jj_s (pc' := 20) rfl rfl ?_
    refine jj_s (pc' := 21) rfl rfl ?_
    refine jj_g rfl rfl (dO _ _ _) rfl ?_
    refine jj_s (pc' := 25) rfl rfl ?_
    refine jj_qpt (N' := N) (S' := upd S 2 x) rfl rfl rfl rfl ?_
    refine jj_s (pc' := 29) rfl rfl ?_
    exact jj_iret rfl rfl ⟨rfl, rfl, fin _ _ _⟩
  · have e : zPol S x = (-2, S) := by rw [zPol, if_neg (by rw [c2]; decide)]
    rw [e]
    refine jj_s (pc' := 11) rfl rfl ?_
    exact jj_iret rfl rfl ⟨rfl, rfl, fin _ _ _⟩
def zLim (S : Nat → Int32) (x : Int32) : Int32 × (Nat → Int32) := if wth x 1 9 = true then (S 3, upd S 3 x) else (-2, S)
set_option maxHeartbeats 4000000 in
set_option maxRecDepth 100000 in
 theorem d_setGroupLimit {G : GC} {B n N : Nat} {S : Nat → Int32} {F : Nat → Nat → Int32} {f : Nat → Option Nat} {wl : Int32} {pt : Nat → Int32} {len : Nat} {C : Nat → Int32} {h : HT} (hN : N ≤ 20) (hC : CL B N S F f wl pt len C h) (x : Int32) : CtJ G B M8_setGroupLimit [.ref (B + 0), .int x] n h 0 0 (fun r2 n2 h2 => r2 = some (.int ((zLim S x).1)) ∧ n2 = n ∧ CL B N (zLim S x).2 F f wl pt len C h2 ∧ tl51 h h2) := by
  obtain ⟨P, Wr, V, Lr, Cr, w, mb, nd, a, Nd, Sd, Fd, hc, hpt⟩ := hC
  have dO : ∀ N S F, wQ B 1 N S F h 0 = some (dob B) := fun N S F => (wQ_n (by omega)).trans hc.1
  have fin : ∀ N' S' F', CL B N' S' F' f wl pt len C (wQ B 1 N' S' F' h) ∧ tl51 h (wQ B 1 N' S' F' h) := fun N' S' F' => ⟨⟨P, Wr, V, Lr, Cr, w, mb, nd, a, Nd, Sd, Fd, hc.q _ _ _, hpt⟩, fun k hk => wQ_n (by omega)⟩
  unfold CtJ
  refine jj_lv (lv' := [some (.ref (B + 0)), some (.int x), none]) rfl ?_
  refine jj_h (h' := wQ B 1 N S F h) hc.2.1.id ?_
  refine jj_s (pc' := 1) rfl rfl ?_
  refine jj_s (pc' := 2) rfl rfl ?_
  refine jj_s (pc' := 4) rfl rfl ?_
  refine jj_t3 rfl rfl rfl rfl rfl (c_isWithin _ _ _) ?_
  refine jj_zF 13 rfl rfl (fun (c2 : wth x 1 9 = true) => ?_) (fun (c2 : wth x 1 9 = false) => ?_)
  · have e : zLim S x = (S 3, upd S 3 x) := by rw [zLim, if_pos c2]
    rw [e]
    refine jj_s (pc' := 14) rfl rfl ?_
    refine jj_g rfl rfl (dO _ _ _) rfl ?_
    refine jj_g rfl rfl wQ_o rfl ?_
    refine jj_s (pc' := 21) rfl rfl ?_
    refine jj_s (pc' := 22) rfl rfl ?_
    refine jj_g rfl rfl (dO _ _ _) rfl ?_
    refine jj_s (pc' := 26) rfl rfl ?_
    refine jj_qpt (N' := N) (S' := upd S 3 x) rfl rfl rfl rfl ?_
    refine jj_s (pc' := 30) rfl rfl ?_
    exact jj_iret rfl rfl ⟨rfl, rfl, fin _ _ _⟩
  · have e : zLim S x = (-2, S) := by rw [zLim, if_neg (by rw [c2]; decide)]
    rw [e]
    refine jj_s (pc' := 12) rfl rfl ?_
    exact jj_iret rfl rfl ⟨rfl, rfl, fin _ _ _⟩
/-- one row's place of an item, or BAD_ITEM -/
def zRow (N : Nat) (g : Nat → Int32) (x : Int32) : Int32 := if isN N x = true then g (ix x) else -1
set_option maxHeartbeats 4000000 in
set_option maxRecDepth 100000 in
 theorem d_receipt {G : GC} {B n N : Nat} {S : Nat → Int32} {F : Nat → Nat → Int32} {f : Nat → Option Nat} {wl : Int32} {pt : Nat → Int32} {len : Nat} {C : Nat → Int32} {h : HT} (hN : N ≤ 20) (hC : CL B N S F f wl pt len C h) (x : Int32) : CtJ G B M8_receipt [.ref (B + 0), .int x] n h 0 0 (fun r2 n2 h2 => r2 = some (.int (zRow N (F 10) x)) ∧ n2 = n ∧ CL B N S F f wl pt len C h2 ∧ tl51 h h2) := by
  obtain ⟨P, Wr, V, Lr, Cr, w, mb, nd, a, Nd, Sd, Fd, hc, hpt⟩ := hC
  have dO : ∀ N S F, wQ B 1 N S F h 0 = some (dob B) := fun N S F => (wQ_n (by omega)).trans hc.1
  have fin : ∀ N' S' F', CL B N' S' F' f wl pt len C (wQ B 1 N' S' F' h) ∧ tl51 h (wQ B 1 N' S' F' h) := fun N' S' F' => ⟨⟨P, Wr, V, Lr, Cr, w, mb, nd, a, Nd, Sd, Fd, hc.q _ _ _, hpt⟩, fun k hk => wQ_n (by omega)⟩
  unfold CtJ
  refine jj_lv (lv' := [some (.ref (B + 0)), some (.int x)]) rfl ?_
  refine jj_h (h' := wQ B 1 N S F h) hc.2.1.id ?_
  refine jj_s (pc' := 1) rfl rfl ?_
  refine jj_g rfl rfl (dO _ _ _) rfl ?_
  refine jj_s (pc' := 5) rfl rfl ?_
  refine jj_v1 rfl rfl rfl wQ_o rfl rfl (c_holds _) ?_
  refine jj_zT 23 rfl rfl (fun (c1 : isN N x = false) => ?_) (fun (c1 : isN N x = true) => ?_)
  · refine jj_s (pc' := 24) rfl rfl ?_
    exact jj_iret rfl rfl ⟨by rw [zRow, if_neg (by rw [c1]; decide)]; rfl, rfl, fin _ _ _⟩
  · obtain ⟨i, hi, rfl⟩ := isN_of hN c1
    refine jj_s (pc' := 12) rfl rfl ?_
    refine jj_g rfl rfl (dO _ _ _) rfl ?_
    refine jj_g rfl rfl wQ_o rfl ?_
    refine jj_s (pc' := 19) rfl rfl ?_
    refine jj_qld [] rfl rfl (by decide) (by first | assumption | omega) ?_
    refine jj_s (pc' := 24) rfl rfl ?_
    exact jj_iret rfl rfl ⟨by rw [zRow, if_pos c1, ix_nI (by omega)], rfl, fin _ _ _⟩
set_option maxHeartbeats 4000000 in
set_option maxRecDepth 100000 in
 theorem d_state {G : GC} {B n N : Nat} {S : Nat → Int32} {F : Nat → Nat → Int32} {f : Nat → Option Nat} {wl : Int32} {pt : Nat → Int32} {len : Nat} {C : Nat → Int32} {h : HT} (hN : N ≤ 20) (hC : CL B N S F f wl pt len C h) (x : Int32) : CtJ G B M8_state [.ref (B + 0), .int x] n h 0 0 (fun r2 n2 h2 => r2 = some (.int (zRow N (F 5) x)) ∧ n2 = n ∧ CL B N S F f wl pt len C h2 ∧ tl51 h h2) := by
  obtain ⟨P, Wr, V, Lr, Cr, w, mb, nd, a, Nd, Sd, Fd, hc, hpt⟩ := hC
  have dO : ∀ N S F, wQ B 1 N S F h 0 = some (dob B) := fun N S F => (wQ_n (by omega)).trans hc.1
  have fin : ∀ N' S' F', CL B N' S' F' f wl pt len C (wQ B 1 N' S' F' h) ∧ tl51 h (wQ B 1 N' S' F' h) := fun N' S' F' => ⟨⟨P, Wr, V, Lr, Cr, w, mb, nd, a, Nd, Sd, Fd, hc.q _ _ _, hpt⟩, fun k hk => wQ_n (by omega)⟩
  unfold CtJ
  refine jj_lv (lv' := [some (.ref (B + 0)), some (.int x)]) rfl ?_
  refine jj_h (h' := wQ B 1 N S F h) hc.2.1.id ?_
  refine jj_s (pc' := 1) rfl rfl ?_
  refine jj_g rfl rfl (dO _ _ _) rfl ?_
  refine jj_s (pc' := 5) rfl rfl ?_
  refine jj_v1 rfl rfl rfl wQ_o rfl rfl (c_holds _) ?_
  refine jj_zT 23 rfl rfl (fun (c1 : isN N x = false) => ?_) (fun (c1 : isN N x = true) => ?_)
  · refine jj_s (pc' := 24) rfl rfl ?_
    exact jj_iret rfl rfl ⟨by rw [zRow, if_neg (by rw [c1]; decide)]; rfl, rfl, fin _ _ _⟩
  · obtain ⟨i, hi, rfl⟩ := isN_of hN c1
    refine jj_s (pc' := 12) rfl rfl ?_
    refine jj_g rfl rfl (dO _ _ _) rfl ?_
    refine jj_g rfl rfl wQ_o rfl ?_
    refine jj_s (pc' := 19) rfl rfl ?_
    refine jj_qld [] rfl rfl (by decide) (by first | assumption | omega) ?_
    refine jj_s (pc' := 24) rfl rfl ?_
    exact jj_iret rfl rfl ⟨by rw [zRow, if_pos c1, ix_nI (by omega)], rfl, fin _ _ _⟩
def zIn (N : Nat) (F : Nat → Nat → Int32) (x : Int32) : Int32 := if wth x 0 6 = true then msk (fun i => decide (F 5 i = x)) N else -2
set_option maxHeartbeats 4000000 in
set_option maxRecDepth 100000 in
 theorem d_itemsIn {G : GC} {B n N : Nat} {S : Nat → Int32} {F : Nat → Nat → Int32} {f : Nat → Option Nat} {wl : Int32} {pt : Nat → Int32} {len : Nat} {C : Nat → Int32} {h : HT} (hN : N ≤ 20) (hC : CL B N S F f wl pt len C h) (x : Int32) : CtJ G B M8_itemsIn [.ref (B + 0), .int x] n h 0 0 (fun r2 n2 h2 => r2 = some (.int (zIn N F x)) ∧ n2 = n ∧ CL B N S F f wl pt len C h2 ∧ tl51 h h2) := by
  obtain ⟨P, Wr, V, Lr, Cr, w, mb, nd, a, Nd, Sd, Fd, hc, hpt⟩ := hC
  have dO : ∀ N S F, wQ B 1 N S F h 0 = some (dob B) := fun N S F => (wQ_n (by omega)).trans hc.1
  have fin : ∀ N' S' F', CL B N' S' F' f wl pt len C (wQ B 1 N' S' F' h) ∧ tl51 h (wQ B 1 N' S' F' h) := fun N' S' F' => ⟨⟨P, Wr, V, Lr, Cr, w, mb, nd, a, Nd, Sd, Fd, hc.q _ _ _, hpt⟩, fun k hk => wQ_n (by omega)⟩
  unfold CtJ
  refine jj_lv (lv' := [some (.ref (B + 0)), some (.int x)]) rfl ?_
  refine jj_h (h' := wQ B 1 N S F h) hc.2.1.id ?_
  refine jj_s (pc' := 1) rfl rfl ?_
  refine jj_s (pc' := 2) rfl rfl ?_
  refine jj_s (pc' := 4) rfl rfl ?_
  refine jj_t3 rfl rfl rfl rfl rfl (c_isWithin _ _ _) ?_
  refine jj_zT 21 rfl rfl (fun (c1 : wth x 0 6 = false) => ?_) (fun (c1 : wth x 0 6 = true) => ?_)
  · refine jj_s (pc' := 23) rfl rfl ?_
    exact jj_iret rfl rfl ⟨by rw [zIn, if_neg (by rw [c1]; decide)]; rfl, rfl, fin _ _ _⟩
  · refine jj_s (pc' := 11) rfl rfl ?_
    refine jj_g rfl rfl (dO _ _ _) rfl ?_
    refine jj_s (pc' := 15) rfl rfl ?_
    refine jj_v1 rfl rfl rfl wQ_o rfl rfl (c_setIn hN _) ?_
    refine jj_s (pc' := 23) rfl rfl ?_
    exact jj_iret rfl rfl ⟨by rw [zIn, if_pos c1], rfl, fin _ _ _⟩
def zEdg (N : Nat) (F : Nat → Nat → Int32) (x y : Int32) : Int32 := if (isN N x && isN N y) = true then (if bt (F 11 (ix y)) (ix x) = true then 0 else if bt (F 12 (ix y)) (ix x) = true then 1 else -7) else -1
set_option maxHeartbeats 4000000 in
set_option maxRecDepth 100000 in
 theorem d_edge {G : GC} {B n N : Nat} {S : Nat → Int32} {F : Nat → Nat → Int32} {f : Nat → Option Nat} {wl : Int32} {pt : Nat → Int32} {len : Nat} {C : Nat → Int32} {h : HT} (hN : N ≤ 20) (hC : CL B N S F f wl pt len C h) (x y : Int32) : CtJ G B M8_edge [.ref (B + 0), .int x, .int y] n h 0 0 (fun r2 n2 h2 => r2 = some (.int (zEdg N F x y)) ∧ n2 = n ∧ CL B N S F f wl pt len C h2 ∧ tl51 h h2) := by
  obtain ⟨P, Wr, V, Lr, Cr, w, mb, nd, a, Nd, Sd, Fd, hc, hpt⟩ := hC
  have dO : ∀ N S F, wQ B 1 N S F h 0 = some (dob B) := fun N S F => (wQ_n (by omega)).trans hc.1
  have fin : ∀ N' S' F', CL B N' S' F' f wl pt len C (wQ B 1 N' S' F' h) ∧ tl51 h (wQ B 1 N' S' F' h) := fun N' S' F' => ⟨⟨P, Wr, V, Lr, Cr, w, mb, nd, a, Nd, Sd, Fd, hc.q _ _ _, hpt⟩, fun k hk => wQ_n (by omega)⟩
  unfold CtJ
  refine jj_lv (lv' := [some (.ref (B + 0)), some (.int x), some (.int y)]) rfl ?_
  refine jj_h (h' := wQ B 1 N S F h) hc.2.1.id ?_
  have bad : (isN N x && isN N y) = false → JJ X0 G B M8_edge 22 [some (.ref (B + 0)), some (.int x), some (.int y)] [] n (wQ B 1 N S F h) 0 0 (fun r2 n2 h2 => r2 = some (.int (zEdg N F x y)) ∧ n2 = n ∧ CL B N S F f wl pt len C h2 ∧ tl51 h h2) := by
    intro hb
    refine jj_s (pc' := 23) rfl rfl ?_
    exact jj_iret rfl rfl ⟨by rw [zEdg, if_neg (by rw [hb]; decide)]; rfl, rfl, fin _ _ _⟩
  refine jj_s (pc' := 1) rfl rfl ?_
  refine jj_g rfl rfl (dO _ _ _) rfl ?_
  refine jj_s (pc' := 5) rfl rfl ?_
  refine jj_v1 rfl rfl rfl wQ_o rfl rfl (c_holds _) ?_
  refine jj_zT 22 rfl rfl (fun c1 => bad (by rw [show isN N x = false from c1]; rfl)) (fun c1 => ?_)
  refine jj_s (pc' := 12) rfl rfl ?_
  refine jj_g rfl rfl (dO _ _ _) rfl ?_
  refine jj_s (pc' := 16) rfl rfl ?_
  refine jj_v1 rfl rfl rfl wQ_o rfl rfl (c_holds _) ?_
  refine jj_zF 24 rfl rfl (fun c2 => ?_) (fun c2 => bad (by rw [show isN N y = false from c2]; simp))
  have ok : (isN N x && isN N y) = true := by rw [show isN N x = true from c1, show isN N y = true from c2]; rfl
  obtain ⟨i, hi, rfl⟩ := isN_of hN c1
  obtain ⟨j, hj, rfl⟩ := isN_of hN c2
  refine jj_s (pc' := 25) rfl rfl ?_
  refine jj_g rfl rfl (dO _ _ _) rfl ?_
  refine jj_s (pc' := 29) rfl rfl ?_
  refine jj_s (pc' := 30) rfl rfl ?_
  refine jj_v2 rfl rfl rfl wQ_o rfl rfl (c_edgeKind (by omega) (by omega)) ?_
  exact jj_iret rfl rfl ⟨by rw [zEdg, if_pos ok, ix_nI (by omega), ix_nI (by omega)], rfl, fin _ _ _⟩
/-- how many come to be in the watched state, and the rows then -/
def zEnd (N : Nat) (S : Nat → Int32) (F : Nat → Nat → Int32) (i : Nat) (e w : Int32) : Int32 × (Nat → Nat → Int32) := (bcF (msk (fun j => decide (stl S N 1000 (uF F 5 i e) 5 j = w)) N &&& (msk (fun j => decide (F 5 j = w)) N ^^^ -1)), stl S N 1000 (uF F 5 i e))
def zFin (N : Nat) (S : Nat → Int32) (F : Nat → Nat → Int32) (x r : Int32) : Int32 × (Nat → Nat → Int32) := if isN N x = true then (if F 5 (ix x) = 2 ∧ F 10 (ix x) = r then zEnd N S F (ix x) 3 1 else (-6, F)) else (-1, F)
set_option maxHeartbeats 4000000 in
set_option maxRecDepth 100000 in
 theorem d_finish {G : GC} {B n N : Nat} {S : Nat → Int32} {F : Nat → Nat → Int32} {f : Nat → Option Nat} {wl : Int32} {pt : Nat → Int32} {len : Nat} {C : Nat → Int32} {h : HT} (hN : N ≤ 20) (hC : CL B N S F f wl pt len C h) (x r : Int32) : CtJ G B M8_finish [.ref (B + 0), .int x, .int r] n h 0 0 (fun r2 n2 h2 => r2 = some (.int ((zFin N S F x r).1)) ∧ n2 = n ∧ CL B N S (zFin N S F x r).2 f wl pt len C h2 ∧ tl51 h h2) := by
  obtain ⟨P, Wr, V, Lr, Cr, w, mb, nd, a, Nd, Sd, Fd, hc, hpt⟩ := hC
  have dO : ∀ N S F, wQ B 1 N S F h 0 = some (dob B) := fun N S F => (wQ_n (by omega)).trans hc.1
  have fin : ∀ N' S' F', CL B N' S' F' f wl pt len C (wQ B 1 N' S' F' h) ∧ tl51 h (wQ B 1 N' S' F' h) := fun N' S' F' => ⟨⟨P, Wr, V, Lr, Cr, w, mb, nd, a, Nd, Sd, Fd, hc.q _ _ _, hpt⟩, fun k hk => wQ_n (by omega)⟩
  unfold CtJ
  refine jj_lv (lv' := [some (.ref (B + 0)), some (.int x), some (.int r)]) rfl ?_
  refine jj_h (h' := wQ B 1 N S F h) hc.2.1.id ?_
  refine jj_s (pc' := 1) rfl rfl ?_
  refine jj_g rfl rfl (dO _ _ _) rfl ?_
  refine jj_s (pc' := 5) rfl rfl ?_
  refine jj_v1 rfl rfl rfl wQ_o rfl rfl (c_holds _) ?_
  refine jj_zF 13 rfl rfl (fun (c1 : isN N x = true) => ?_) (fun (c1 : isN N x = false) => ?_)
  · obtain ⟨i, hi, rfl⟩ := isN_of hN c1
    refine jj_s (pc' := 14) rfl rfl ?_
    refine jj_g rfl rfl (dO _ _ _) rfl ?_
    refine jj_s (pc' := 18) rfl rfl ?_
    refine jj_s (pc' := 19) rfl rfl ?_
    refine jj_v2 rfl rfl rfl wQ_o rfl rfl (c_isValid (by omega) _) ?_
    refine jj_zF 28 rfl rfl (fun c2 => ?_) (fun c2 => ?_)
    · have e : zFin N S F (nI i) r = zEnd N S F i 3 1 := by rw [zFin, if_pos c1, ix_nI (by omega), if_pos (of_decide_eq_true c2)]
      rw [e]
      refine jj_s (pc' := 29) rfl rfl ?_
      refine jj_g rfl rfl (dO _ _ _) rfl ?_
      refine jj_s (pc' := 33) rfl rfl ?_
      refine jj_s (pc' := 34) rfl rfl ?_
      refine jj_s (pc' := 35) rfl rfl ?_
      refine jj_v3 rfl rfl rfl wQ_o rfl rfl (c_endAs hN (by omega) _ _) ?_
      exact jj_iret rfl rfl ⟨rfl, rfl, fin _ _ _⟩
    · have e : zFin N S F (nI i) r = (-6, F) := by rw [zFin, if_pos c1, ix_nI (by omega), if_neg (of_decide_eq_false c2)]
      rw [e]
      refine jj_s (pc' := 27) rfl rfl ?_
      exact jj_iret rfl rfl ⟨rfl, rfl, fin _ _ _⟩
  · have e : zFin N S F x r = (-1, F) := by rw [zFin, if_neg (by rw [c1]; decide)]
    rw [e]
    refine jj_s (pc' := 12) rfl rfl ?_
    exact jj_iret rfl rfl ⟨rfl, rfl, fin _ _ _⟩
def zCan (N : Nat) (S : Nat → Int32) (F : Nat → Nat → Int32) (x : Int32) : Int32 × (Nat → Nat → Int32) := if isN N x = true then (if 3 ≤ F 5 (ix x) then (-4, F) else zEnd N S F (ix x) 4 5) else (-1, F)
set_option maxHeartbeats 4000000 in
set_option maxRecDepth 100000 in
 theorem d_cancel {G : GC} {B n N : Nat} {S : Nat → Int32} {F : Nat → Nat → Int32} {f : Nat → Option Nat} {wl : Int32} {pt : Nat → Int32} {len : Nat} {C : Nat → Int32} {h : HT} (hN : N ≤ 20) (hC : CL B N S F f wl pt len C h) (x : Int32) : CtJ G B M8_cancel [.ref (B + 0), .int x] n h 0 0 (fun r2 n2 h2 => r2 = some (.int ((zCan N S F x).1)) ∧ n2 = n ∧ CL B N S (zCan N S F x).2 f wl pt len C h2 ∧ tl51 h h2) := by
  obtain ⟨P, Wr, V, Lr, Cr, w, mb, nd, a, Nd, Sd, Fd, hc, hpt⟩ := hC
  have dO : ∀ N S F, wQ B 1 N S F h 0 = some (dob B) := fun N S F => (wQ_n (by omega)).trans hc.1
  have fin : ∀ N' S' F', CL B N' S' F' f wl pt len C (wQ B 1 N' S' F' h) ∧ tl51 h (wQ B 1 N' S' F' h) := fun N' S' F' => ⟨⟨P, Wr, V, Lr, Cr, w, mb, nd, a, Nd, Sd, Fd, hc.q _ _ _, hpt⟩, fun k hk => wQ_n (by omega)⟩
  unfold CtJ
  refine jj_lv (lv' := [some (.ref (B + 0)), some (.int x)]) rfl ?_
  refine jj_h (h' := wQ B 1 N S F h) hc.2.1.id ?_
  refine jj_s (pc' := 1) rfl rfl ?_
  refine jj_g rfl rfl (dO _ _ _) rfl ?_
  refine jj_s (pc' := 5) rfl rfl ?_
  refine jj_v1 rfl rfl rfl wQ_o rfl rfl (c_holds _) ?_
  refine jj_zF 13 rfl rfl (fun (c1 : isN N x = true) => ?_) (fun (c1 : isN N x = false) => ?_)
  · obtain ⟨i, hi, rfl⟩ := isN_of hN c1
    refine jj_s (pc' := 14) rfl rfl ?_
    refine jj_g rfl rfl (dO _ _ _) rfl ?_
    refine jj_s (pc' := 18) rfl rfl ?_
    refine jj_v1 rfl rfl rfl wQ_o rfl rfl (c_hasEnded (by omega)) ?_
    refine jj_zT 27 rfl rfl (fun c2 => ?_) (fun c2 => ?_)
    · have e : zCan N S F (nI i) = zEnd N S F i 4 5 := by rw [zCan, if_pos c1, ix_nI (by omega), if_neg (of_decide_eq_false c2)]
      rw [e]
      refine jj_s (pc' := 28) rfl rfl ?_
      refine jj_g rfl rfl (dO _ _ _) rfl ?_
      refine jj_s (pc' := 32) rfl rfl ?_
      refine jj_s (pc' := 33) rfl rfl ?_
      refine jj_s (pc' := 34) rfl rfl ?_
      refine jj_v3 rfl rfl rfl wQ_o rfl rfl (c_endAs hN (by omega) _ _) ?_
      exact jj_iret rfl rfl ⟨rfl, rfl, fin _ _ _⟩
    · have e : zCan N S F (nI i) = (-4, F) := by rw [zCan, if_pos c1, ix_nI (by omega), if_pos (of_decide_eq_true c2)]
      rw [e]
      refine jj_s (pc' := 26) rfl rfl ?_
      exact jj_iret rfl rfl ⟨rfl, rfl, fin _ _ _⟩
  · have e : zCan N S F x = (-1, F) := by rw [zCan, if_neg (by rw [c1]; decide)]
    rw [e]
    refine jj_s (pc' := 12) rfl rfl ?_
    exact jj_iret rfl rfl ⟨rfl, rfl, fin _ _ _⟩
def zRev (N : Nat) (S : Nat → Int32) (F : Nat → Nat → Int32) (x : Int32) : Int32 × (Nat → Nat → Int32) := if isN N x = true then (if 3 < F 5 (ix x) then (stl S N 1000 (uF (uF (uF F 5 (ix x) 0) 9 (ix x) 0) 10 (ix x) (-7)) 5 (ix x), stl S N 1000 (uF (uF (uF F 5 (ix x) 0) 9 (ix x) 0) 10 (ix x) (-7))) else (-4, F)) else (-1, F)
set_option maxHeartbeats 4000000 in
set_option maxRecDepth 100000 in
 theorem d_revive {G : GC} {B n N : Nat} {S : Nat → Int32} {F : Nat → Nat → Int32} {f : Nat → Option Nat} {wl : Int32} {pt : Nat → Int32} {len : Nat} {C : Nat → Int32} {h : HT} (hN : N ≤ 20) (hC : CL B N S F f wl pt len C h) (x : Int32) : CtJ G B M8_revive [.ref (B + 0), .int x] n h 0 0 (fun r2 n2 h2 => r2 = some (.int ((zRev N S F x).1)) ∧ n2 = n ∧ CL B N S (zRev N S F x).2 f wl pt len C h2 ∧ tl51 h h2) := by
  obtain ⟨P, Wr, V, Lr, Cr, w, mb, nd, a, Nd, Sd, Fd, hc, hpt⟩ := hC
  have dO : ∀ N S F, wQ B 1 N S F h 0 = some (dob B) := fun N S F => (wQ_n (by omega)).trans hc.1
  have fin : ∀ N' S' F', CL B N' S' F' f wl pt len C (wQ B 1 N' S' F' h) ∧ tl51 h (wQ B 1 N' S' F' h) := fun N' S' F' => ⟨⟨P, Wr, V, Lr, Cr, w, mb, nd, a, Nd, Sd, Fd, hc.q _ _ _, hpt⟩, fun k hk => wQ_n (by omega)⟩
  unfold CtJ
  refine jj_lv (lv' := [some (.ref (B + 0)), some (.int x)]) rfl ?_
  refine jj_h (h' := wQ B 1 N S F h) hc.2.1.id ?_
  refine jj_s (pc' := 1) rfl rfl ?_
  refine jj_g rfl rfl (dO _ _ _) rfl ?_
  refine jj_s (pc' := 5) rfl rfl ?_
  refine jj_v1 rfl rfl rfl wQ_o rfl rfl (c_holds _) ?_
  refine jj_zF 13 rfl rfl (fun (c1 : isN N x = true) => ?_) (fun (c1 : isN N x = false) => ?_)
  · obtain ⟨i, hi, rfl⟩ := isN_of hN c1
    refine jj_s (pc' := 14) rfl rfl ?_
    refine jj_g rfl rfl (dO _ _ _) rfl ?_
    refine jj_s (pc' := 18) rfl rfl ?_
    refine jj_v1 rfl rfl rfl wQ_o rfl rfl (c_hasFailed (by omega)) ?_
    refine jj_zF 27 rfl rfl (fun c2 => ?_) (fun c2 => ?_)
    · have e : zRev N S F (nI i) = (stl S N 1000 (uF (uF (uF F 5 i 0) 9 i 0) 10 i (-7)) 5 i, stl S N 1000 (uF (uF (uF F 5 i 0) 9 i 0) 10 i (-7))) := by rw [zRev, if_pos c1, ix_nI (by omega), if_pos (of_decide_eq_true c2)]
      rw [e]
      refine jj_s (pc' := 28) rfl rfl ?_
      refine jj_g rfl rfl (dO _ _ _) rfl ?_
      refine jj_s (pc' := 32) rfl rfl ?_
      refine jj_w1 rfl rfl rfl wQ_o rfl rfl (c_startAnew (by omega)) ?_
      refine jj_s (pc' := 36) rfl rfl ?_
      refine jj_g rfl rfl (dO _ _ _) rfl ?_
      refine jj_w0 rfl rfl rfl wQ_o rfl rfl (c_settle hN) ?_
      refine jj_s (pc' := 43) rfl rfl ?_
      refine jj_g rfl rfl (dO _ _ _) rfl ?_
      refine jj_g rfl rfl wQ_o rfl ?_
      refine jj_s (pc' := 50) rfl rfl ?_
      refine jj_qld [] rfl rfl (by decide) (by first | assumption | omega) ?_
      exact jj_iret rfl rfl ⟨rfl, rfl, fin _ _ _⟩
    · have e : zRev N S F (nI i) = (-4, F) := by rw [zRev, if_pos c1, ix_nI (by omega), if_neg (of_decide_eq_false c2)]
      rw [e]
      refine jj_s (pc' := 26) rfl rfl ?_
      exact jj_iret rfl rfl ⟨rfl, rfl, fin _ _ _⟩
  · have e : zRev N S F x = (-1, F) := by rw [zRev, if_neg (by rw [c1]; decide)]
    rw [e]
    refine jj_s (pc' := 12) rfl rfl ?_
    exact jj_iret rfl rfl ⟨rfl, rfl, fin _ _ _⟩
def zGiv (N : Nat) (S : Nat → Int32) (F : Nat → Nat → Int32) (x r p : Int32) : Int32 × (Nat → Nat → Int32) := if isN N x = true then (if wth p 0 10 = true then (if F 5 (ix x) = 2 ∧ F 10 (ix x) = r then (stl S N 1000 (cbF S F (ix x) (p * ((1 : Int32) <<< ((F 9 (ix x) - 1) &&& 31)))) 5 (ix x), stl S N 1000 (cbF S F (ix x) (p * ((1 : Int32) <<< ((F 9 (ix x) - 1) &&& 31))))) else (-6, F)) else (-2, F)) else (-1, F)
set_option maxHeartbeats 4000000 in
set_option maxRecDepth 100000 in
 theorem d_giveBack {G : GC} {B n N : Nat} {S : Nat → Int32} {F : Nat → Nat → Int32} {f : Nat → Option Nat} {wl : Int32} {pt : Nat → Int32} {len : Nat} {C : Nat → Int32} {h : HT} (hN : N ≤ 20) (hC : CL B N S F f wl pt len C h) (x r p : Int32) : CtJ G B M8_giveBack [.ref (B + 0), .int x, .int r, .int p] n h 0 0 (fun r2 n2 h2 => r2 = some (.int ((zGiv N S F x r p).1)) ∧ n2 = n ∧ CL B N S (zGiv N S F x r p).2 f wl pt len C h2 ∧ tl51 h h2) := by
  obtain ⟨P, Wr, V, Lr, Cr, w, mb, nd, a, Nd, Sd, Fd, hc, hpt⟩ := hC
  have dO : ∀ N S F, wQ B 1 N S F h 0 = some (dob B) := fun N S F => (wQ_n (by omega)).trans hc.1
  have fin : ∀ N' S' F', CL B N' S' F' f wl pt len C (wQ B 1 N' S' F' h) ∧ tl51 h (wQ B 1 N' S' F' h) := fun N' S' F' => ⟨⟨P, Wr, V, Lr, Cr, w, mb, nd, a, Nd, Sd, Fd, hc.q _ _ _, hpt⟩, fun k hk => wQ_n (by omega)⟩
  unfold CtJ
  refine jj_lv (lv' := [some (.ref (B + 0)), some (.int x), some (.int r), some (.int p)]) rfl ?_
  refine jj_h (h' := wQ B 1 N S F h) hc.2.1.id ?_
  refine jj_s (pc' := 1) rfl rfl ?_
  refine jj_g rfl rfl (dO _ _ _) rfl ?_
  refine jj_s (pc' := 5) rfl rfl ?_
  refine jj_v1 rfl rfl rfl wQ_o rfl rfl (c_holds _) ?_
  refine jj_zF 13 rfl rfl (fun (c1 : isN N x = true) => ?_) (fun (c1 : isN N x = false) => ?_)
  · obtain ⟨i, hi, rfl⟩ := isN_of hN c1
    refine jj_s (pc' := 14) rfl rfl ?_
    refine jj_s (pc' := 15) rfl rfl ?_
    refine jj_s (pc' := 17) rfl rfl ?_
    refine jj_t3 rfl rfl rfl rfl rfl (c_isWithin _ _ _) ?_
    refine jj_zF 26 rfl rfl (fun (c2 : wth p 0 10 = true) => ?_) (fun (c2 : wth p 0 10 = false) => ?_)
    · refine jj_s (pc' := 27) rfl rfl ?_
      refine jj_g rfl rfl (dO _ _ _) rfl ?_
      refine jj_s (pc' := 31) rfl rfl ?_
      refine jj_s (pc' := 32) rfl rfl ?_
      refine jj_v2 rfl rfl rfl wQ_o rfl rfl (c_isValid (by omega) _) ?_
      refine jj_zF 41 rfl rfl (fun c3 => ?_) (fun c3 => ?_)
      · have e : zGiv N S F (nI i) r p = (stl S N 1000 (cbF S F i (p * ((1 : Int32) <<< ((F 9 i - 1) &&& 31)))) 5 i, stl S N 1000 (cbF S F i (p * ((1 : Int32) <<< ((F 9 i - 1) &&& 31))))) := by rw [zGiv, if_pos c1, if_pos c2, ix_nI (by omega), if_pos (of_decide_eq_true c3)]
        rw [e]
        refine jj_s (pc' := 42) rfl rfl ?_
        refine jj_g rfl rfl (dO _ _ _) rfl ?_
        refine jj_s (pc' := 46) rfl rfl ?_
        refine jj_s (pc' := 47) rfl rfl ?_
        refine jj_s (pc' := 48) rfl rfl ?_
        refine jj_s (pc' := 49) rfl rfl ?_
        refine jj_g rfl rfl (dO _ _ _) rfl ?_
        refine jj_g rfl rfl wQ_o rfl ?_
        refine jj_s (pc' := 56) rfl rfl ?_
        refine jj_qld [] rfl rfl (by decide) (by first | assumption | omega) ?_
        refine jj_s (pc' := 58) rfl rfl ?_
        refine jj_s (pc' := 59) rfl rfl ?_
        refine jj_s (pc' := 60) rfl rfl ?_
        refine jj_s (pc' := 61) rfl rfl ?_
        refine jj_w2 rfl rfl rfl wQ_o rfl rfl (c_comeBack (by omega) _) ?_
        refine jj_s (pc' := 65) rfl rfl ?_
        refine jj_g rfl rfl (dO _ _ _) rfl ?_
        refine jj_w0 rfl rfl rfl wQ_o rfl rfl (c_settle hN) ?_
        refine jj_s (pc' := 72) rfl rfl ?_
        refine jj_g rfl rfl (dO _ _ _) rfl ?_
        refine jj_g rfl rfl wQ_o rfl ?_
        refine jj_s (pc' := 79) rfl rfl ?_
        refine jj_qld [] rfl rfl (by decide) (by first | assumption | omega) ?_
        exact jj_iret rfl rfl ⟨rfl, rfl, fin _ _ _⟩
      · have e : zGiv N S F (nI i) r p = (-6, F) := by rw [zGiv, if_pos c1, if_pos c2, ix_nI (by omega), if_neg (of_decide_eq_false c3)]
        rw [e]
        refine jj_s (pc' := 40) rfl rfl ?_
        exact jj_iret rfl rfl ⟨rfl, rfl, fin _ _ _⟩
    · have e : zGiv N S F (nI i) r p = (-2, F) := by rw [zGiv, if_pos c1, if_neg (by rw [c2]; decide)]
      rw [e]
      refine jj_s (pc' := 25) rfl rfl ?_
      exact jj_iret rfl rfl ⟨rfl, rfl, fin _ _ _⟩
  · have e : zGiv N S F x r p = (-1, F) := by rw [zGiv, if_neg (by rw [c1]; decide)]
    rw [e]
    refine jj_s (pc' := 12) rfl rfl ?_
    exact jj_iret rfl rfl ⟨rfl, rfl, fin _ _ _⟩
def zExt (N : Nat) (S : Nat → Int32) (F : Nat → Nat → Int32) (x r v : Int32) : Int32 × (Nat → Nat → Int32) := if isN N x = true then (if wth v 1 30 = true then (if F 5 (ix x) = 2 ∧ F 10 (ix x) = r then (F 8 (ix x), uF F 8 (ix x) (S 1 + v)) else (-6, F)) else (-2, F)) else (-1, F)
set_option maxHeartbeats 4000000 in
set_option maxRecDepth 100000 in
 theorem d_extend {G : GC} {B n N : Nat} {S : Nat → Int32} {F : Nat → Nat → Int32} {f : Nat → Option Nat} {wl : Int32} {pt : Nat → Int32} {len : Nat} {C : Nat → Int32} {h : HT} (hN : N ≤ 20) (hC : CL B N S F f wl pt len C h) (x r v : Int32) : CtJ G B M8_extend [.ref (B + 0), .int x, .int r, .int v] n h 0 0 (fun r2 n2 h2 => r2 = some (.int ((zExt N S F x r v).1)) ∧ n2 = n ∧ CL B N S (zExt N S F x r v).2 f wl pt len C h2 ∧ tl51 h h2) := by
  obtain ⟨P, Wr, V, Lr, Cr, w, mb, nd, a, Nd, Sd, Fd, hc, hpt⟩ := hC
  have dO : ∀ N S F, wQ B 1 N S F h 0 = some (dob B) := fun N S F => (wQ_n (by omega)).trans hc.1
  have fin : ∀ N' S' F', CL B N' S' F' f wl pt len C (wQ B 1 N' S' F' h) ∧ tl51 h (wQ B 1 N' S' F' h) := fun N' S' F' => ⟨⟨P, Wr, V, Lr, Cr, w, mb, nd, a, Nd, Sd, Fd, hc.q _ _ _, hpt⟩, fun k hk => wQ_n (by omega)⟩
  unfold CtJ
  refine jj_lv (lv' := [some (.ref (B + 0)), some (.int x), some (.int r), some (.int v), none]) rfl ?_
  refine jj_h (h' := wQ B 1 N S F h) hc.2.1.id ?_
  refine jj_s (pc' := 1) rfl rfl ?_
  refine jj_g rfl rfl (dO _ _ _) rfl ?_
  refine jj_s (pc' := 5) rfl rfl ?_
  refine jj_v1 rfl rfl rfl wQ_o rfl rfl (c_holds _) ?_
  refine jj_zF 13 rfl rfl (fun (c1 : isN N x = true) => ?_) (fun (c1 : isN N x = false) => ?_)
  · obtain ⟨i, hi, rfl⟩ := isN_of hN c1
    refine jj_s (pc' := 14) rfl rfl ?_
    refine jj_s (pc' := 15) rfl rfl ?_
    refine jj_s (pc' := 17) rfl rfl ?_
    refine jj_t3 rfl rfl rfl rfl rfl (c_isWithin _ _ _) ?_
    refine jj_zF 26 rfl rfl (fun (c2 : wth v 1 30 = true) => ?_) (fun (c2 : wth v 1 30 = false) => ?_)
    · refine jj_s (pc' := 27) rfl rfl ?_
      refine jj_g rfl rfl (dO _ _ _) rfl ?_
      refine jj_s (pc' := 31) rfl rfl ?_
      refine jj_s (pc' := 32) rfl rfl ?_
      refine jj_v2 rfl rfl rfl wQ_o rfl rfl (c_isValid (by omega) _) ?_
      refine jj_zF 41 rfl rfl (fun c3 => ?_) (fun c3 => ?_)
      · have e : zExt N S F (nI i) r v = (F 8 i, uF F 8 i (S 1 + v)) := by rw [zExt, if_pos c1, if_pos c2, ix_nI (by omega), if_pos (of_decide_eq_true c3)]
        rw [e]
        refine jj_s (pc' := 42) rfl rfl ?_
        refine jj_g rfl rfl (dO _ _ _) rfl ?_
        refine jj_g rfl rfl wQ_o rfl ?_
        refine jj_s (pc' := 49) rfl rfl ?_
        refine jj_qld [] rfl rfl (by decide) (by first | assumption | omega) ?_
        refine jj_s (pc' := 52) rfl rfl ?_
        refine jj_s (pc' := 53) rfl rfl ?_
        refine jj_g rfl rfl (dO _ _ _) rfl ?_
        refine jj_g rfl rfl wQ_o rfl ?_
        refine jj_s (pc' := 60) rfl rfl ?_
        refine jj_s (pc' := 61) rfl rfl ?_
        refine jj_g rfl rfl (dO _ _ _) rfl ?_
        refine jj_g rfl rfl wQ_o rfl ?_
        refine jj_s (pc' := 68) rfl rfl ?_
        refine jj_s (pc' := 69) rfl rfl ?_
        refine jj_qst [] rfl rfl (by decide) (by first | assumption | omega) ?_
        refine jj_s (pc' := 72) rfl rfl ?_
        exact jj_iret rfl rfl ⟨rfl, rfl, fin _ _ _⟩
      · have e : zExt N S F (nI i) r v = (-6, F) := by rw [zExt, if_pos c1, if_pos c2, ix_nI (by omega), if_neg (of_decide_eq_false c3)]
        rw [e]
        refine jj_s (pc' := 40) rfl rfl ?_
        exact jj_iret rfl rfl ⟨rfl, rfl, fin _ _ _⟩
    · have e : zExt N S F (nI i) r v = (-2, F) := by rw [zExt, if_pos c1, if_neg (by rw [c2]; decide)]
      rw [e]
      refine jj_s (pc' := 25) rfl rfl ?_
      exact jj_iret rfl rfl ⟨rfl, rfl, fin _ _ _⟩
  · have e : zExt N S F x r v = (-1, F) := by rw [zExt, if_neg (by rw [c1]; decide)]
    rw [e]
    refine jj_s (pc' := 12) rfl rfl ?_
    exact jj_iret rfl rfl ⟨rfl, rfl, fin _ _ _⟩
/-- k ticks: the scalars, the rows, how many returned -/
def tkK (N : Nat) (S : Nat → Int32) (F : Nat → Nat → Int32) : Nat → (Nat → Int32) × (Nat → Nat → Int32) × Int32
  | 0 => (S, F, 0)
  | k + 1 =>
    let r := tkK N S F k
    (upd r.1 1 (r.1 1 + 1), tck (upd r.1 1 (r.1 1 + 1)) N r.2.1, r.2.2 + nI (ptk (upd r.1 1 (r.1 1 + 1)) r.2.1 N).2)
def zTic (N : Nat) (S : Nat → Int32) (F : Nat → Nat → Int32) (x : Int32) : Int32 × (Nat → Int32) × (Nat → Nat → Int32) := if wth x 1 30 = true then ((tkK N S F (ix x)).2.2, (tkK N S F (ix x)).1, (tkK N S F (ix x)).2.1) else (-2, S, F)
set_option maxHeartbeats 4000000 in
set_option maxRecDepth 100000 in
 theorem d_tick {G : GC} {B n N : Nat} {S : Nat → Int32} {F : Nat → Nat → Int32} {f : Nat → Option Nat} {wl : Int32} {pt : Nat → Int32} {len : Nat} {C : Nat → Int32} {h : HT} (hN : N ≤ 20) (hC : CL B N S F f wl pt len C h) (x : Int32) : CtJ G B M8_tick [.ref (B + 0), .int x] n h 0 0 (fun r2 n2 h2 => r2 = some (.int ((zTic N S F x).1)) ∧ n2 = n ∧ CL B N (zTic N S F x).2.1 (zTic N S F x).2.2 f wl pt len C h2 ∧ tl51 h h2) := by
  obtain ⟨P, Wr, V, Lr, Cr, w, mb, nd, a, Nd, Sd, Fd, hc, hpt⟩ := hC
  have dO : ∀ N S F, wQ B 1 N S F h 0 = some (dob B) := fun N S F => (wQ_n (by omega)).trans hc.1
  have fin : ∀ N' S' F', CL B N' S' F' f wl pt len C (wQ B 1 N' S' F' h) ∧ tl51 h (wQ B 1 N' S' F' h) := fun N' S' F' => ⟨⟨P, Wr, V, Lr, Cr, w, mb, nd, a, Nd, Sd, Fd, hc.q _ _ _, hpt⟩, fun k hk => wQ_n (by omega)⟩
  unfold CtJ
  refine jj_lv (lv' := [some (.ref (B + 0)), some (.int x), none, none]) rfl ?_
  refine jj_h (h' := wQ B 1 N S F h) hc.2.1.id ?_
  refine jj_s (pc' := 1) rfl rfl ?_
  refine jj_s (pc' := 2) rfl rfl ?_
  refine jj_s (pc' := 4) rfl rfl ?_
  refine jj_t3 rfl rfl rfl rfl rfl (c_isWithin _ _ _) ?_
  refine jj_zF 13 rfl rfl (fun (c1 : wth x 1 30 = true) => ?_) (fun (c1 : wth x 1 30 = false) => ?_)
  · have c2 := of_decide_eq_true c1
    obtain ⟨t, ht, rfl⟩ := nI_of2 (x := x) (M := 30) (n := 30) rfl (fun z => absurd (Int32.lt_of_lt_of_le z (by decide : (0 : Int32) ≤ 1)) (Int32.not_lt.mpr c2.1)) c2.2
    have e : zTic N S F (nI t) = ((tkK N S F t).2.2, (tkK N S F t).1, (tkK N S F t).2.1) := by rw [zTic, if_pos c1, ix_nI (by omega)]
    rw [e]
    refine jj_s (pc' := 14) rfl rfl ?_
    refine jj_s (pc' := 15) rfl rfl ?_
    refine jj_s (pc' := 16) rfl rfl ?_
    refine jj_s (pc' := 17) rfl rfl ?_
    have L : ∀ d k, k ≤ t → t + 1 ≤ k + d → JJ X0 G B M8_tick 17 [some (.ref (B + 0)), some (.int (nI t)), some (.int (tkK N S F k).2.2), some (.int (nI k))] [] n (wQ B 1 N (tkK N S F k).1 (tkK N S F k).2.1 h) 0 0 (fun r2 n2 h2 => r2 = some (.int ((tkK N S F t).2.2)) ∧ n2 = n ∧ CL B N (tkK N S F t).1 (tkK N S F t).2.1 f wl pt len C h2 ∧ tl51 h h2) := by
      intro d
      induction d with
      | zero => intro k h1 h2; exact absurd h2 (by omega)
      | succ d ih =>
        intro k h1 h2
        refine jj_s (pc' := 18) rfl rfl ?_
        refine jj_s (pc' := 19) rfl rfl ?_
        refine jj_geN 38 rfl rfl (by omega) (by omega) (fun c => ?_) (fun c => ?_)
        · rw [show k = t by omega]
          refine jj_s (pc' := 39) rfl rfl ?_
          exact jj_iret rfl rfl ⟨rfl, rfl, fin _ _ _⟩
        · refine jj_s (pc' := 23) rfl rfl ?_
          refine jj_s (pc' := 24) rfl rfl ?_
          refine jj_g rfl rfl (dO _ _ _) rfl ?_
          refine jj_v0 rfl rfl rfl wQ_o rfl rfl (c_passTick hN) ?_
          refine jj_s (pc' := 31) rfl rfl ?_
          refine jj_s (pc' := 32) rfl rfl ?_
          first | refine jj_inc rfl rfl ?_ | refine jj_s (pc' := 35) rfl rfl ?_
          refine jj_s (pc' := 17) rfl rfl ?_
          exact ih (k + 1) (by omega) (by omega)
    exact L (t + 1) 0 (by omega) (by omega)
  · have e : zTic N S F x = (-2, S, F) := by rw [zTic, if_neg (by rw [c1]; decide)]
    rw [e]
    refine jj_s (pc' := 12) rfl rfl ?_
    exact jj_iret rfl rfl ⟨rfl, rfl, fin _ _ _⟩
def zDoo (N : Nat) (F : Nat → Nat → Int32) (x : Int32) : Int32 := if isN N x = true then (if 3 ≤ F 5 (ix x) then -4 else dmk F N 1000 (bit (ix x)) &&& (bit (ix x) ^^^ -1)) else -1
set_option maxHeartbeats 4000000 in
set_option maxRecDepth 100000 in
 theorem d_wouldDoom {G : GC} {B n N : Nat} {S : Nat → Int32} {F : Nat → Nat → Int32} {f : Nat → Option Nat} {wl : Int32} {pt : Nat → Int32} {len : Nat} {C : Nat → Int32} {h : HT} (hN : N ≤ 20) (hC : CL B N S F f wl pt len C h) (x : Int32) : CtJ G B M8_wouldDoom [.ref (B + 0), .int x] n h 0 0 (fun r2 n2 h2 => r2 = some (.int (zDoo N F x)) ∧ n2 = n ∧ CL B N S F f wl pt len C h2 ∧ tl51 h h2) := by
  obtain ⟨P, Wr, V, Lr, Cr, w, mb, nd, a, Nd, Sd, Fd, hc, hpt⟩ := hC
  have dO : ∀ N S F, wQ B 1 N S F h 0 = some (dob B) := fun N S F => (wQ_n (by omega)).trans hc.1
  have fin : ∀ N' S' F', CL B N' S' F' f wl pt len C (wQ B 1 N' S' F' h) ∧ tl51 h (wQ B 1 N' S' F' h) := fun N' S' F' => ⟨⟨P, Wr, V, Lr, Cr, w, mb, nd, a, Nd, Sd, Fd, hc.q _ _ _, hpt⟩, fun k hk => wQ_n (by omega)⟩
  unfold CtJ
  refine jj_lv (lv' := [some (.ref (B + 0)), some (.int x)]) rfl ?_
  refine jj_h (h' := wQ B 1 N S F h) hc.2.1.id ?_
  refine jj_s (pc' := 1) rfl rfl ?_
  refine jj_g rfl rfl (dO _ _ _) rfl ?_
  refine jj_s (pc' := 5) rfl rfl ?_
  refine jj_v1 rfl rfl rfl wQ_o rfl rfl (c_holds _) ?_
  refine jj_zF 13 rfl rfl (fun (c1 : isN N x = true) => ?_) (fun (c1 : isN N x = false) => ?_)
  · obtain ⟨i, hi, rfl⟩ := isN_of hN c1
    refine jj_s (pc' := 14) rfl rfl ?_
    refine jj_g rfl rfl (dO _ _ _) rfl ?_
    refine jj_s (pc' := 18) rfl rfl ?_
    refine jj_v1 rfl rfl rfl wQ_o rfl rfl (c_hasEnded (by omega)) ?_
    refine jj_zT 27 rfl rfl (fun c2 => ?_) (fun c2 => ?_)
    · refine jj_s (pc' := 28) rfl rfl ?_
      refine jj_g rfl rfl (dO _ _ _) rfl ?_
      refine jj_s (pc' := 32) rfl rfl ?_
      refine jj_v1 rfl rfl rfl wQ_o rfl rfl (c_doomedBy hN (by omega)) ?_
      exact jj_iret rfl rfl ⟨by rw [zDoo, if_pos c1, ix_nI (by omega), if_neg (of_decide_eq_false c2)], rfl, fin _ _ _⟩
    · refine jj_s (pc' := 26) rfl rfl ?_
      exact jj_iret rfl rfl ⟨by rw [zDoo, if_pos c1, ix_nI (by omega), if_pos (of_decide_eq_true c2)]; rfl, rfl, fin _ _ _⟩
  · refine jj_s (pc' := 12) rfl rfl ?_
    exact jj_iret rfl rfl ⟨by rw [zDoo, if_neg (by rw [c1]; decide)]; rfl, rfl, fin _ _ _⟩
