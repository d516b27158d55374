/-! the calls that change the items -/
theorem isN_ix {N : Nat} (hN : N ≤ 20) {x : Int32} (h : isN N x = true) : ix x < N := by
  obtain ⟨i, hi, rfl⟩ := isN_of hN h
  rw [ix_nI (by omega)]
  exact hi
theorem p_unlink {G : GC} {B n : Nat} {h : HT} (hLS : LSt B n h) (x y : Int32) : PrI G B M8_unlink M9_unlink [.int x, .int y] n h 0 0 := by
  obtain ⟨N, S, F, f, L, pt, len, C, sv, hL, hl, hI, hC, hM, hS⟩ := hLS
  have hx : (isN N x && isN N y) = true → ix x < N := fun z => isN_ix hI.le (by rw [Bool.and_eq_true] at z; exact z.1)
  refine prI hM hS ?_ hL hl (d_unlink hI.le hC x y) (fun h2 hm => m_unlink hI.le hm x y (fun z => (hI.dr (hx z)).1.stt S) (fun z => ((hI.dr (hx z)).inv S).ed))
  unfold zUnl
  by_cases c1 : (isN N x && isN N y) = true
  · rw [if_pos c1]
    by_cases c2 : bt (prd F (ix y)) (ix x) = true ∧ (F 5 (ix y) = 0 ∨ F 5 (ix y) = 1)
    · rw [if_pos c2]; exact (hI.dr (hx c1)).inv S
    · rw [if_neg c2]; exact hI
  · rw [if_neg c1]; exact hI
theorem p_finish {G : GC} {B n : Nat} {h : HT} (hLS : LSt B n h) (x y : Int32) : PrI G B M8_finish M9_finish [.int x, .int y] n h 0 0 := by
  obtain ⟨N, S, F, f, L, pt, len, C, sv, hL, hl, hI, hC, hM, hS⟩ := hLS
  have hen := hI.en (ix x) (e := 3) (by decide) (by decide) (by decide) (by decide)
  refine prI hM hS ?_ hL hl (d_finish hI.le hC x y) (fun h2 hm => m_finish hI.le hm x y (fun _ => hen.1.stt S) (fun z z2 => end_cnt hI.le hI.2 hI.1.1.self (isN_ix hI.le z) (Or.inl rfl) (by rw [z2]; decide) (by decide) (by decide) (by rw [z2]; decide)))
  unfold zFin
  by_cases c1 : isN N x = true
  · rw [if_pos c1]
    by_cases c2 : F 5 (ix x) = 2 ∧ F 10 (ix x) = y
    · rw [if_pos c2]; exact hen.inv S
    · rw [if_neg c2]; exact hI
  · rw [if_neg c1]; exact hI
theorem p_cancel {G : GC} {B n : Nat} {h : HT} (hLS : LSt B n h) (x : Int32) : PrI G B M8_cancel M9_cancel [.int x] n h 0 0 := by
  obtain ⟨N, S, F, f, L, pt, len, C, sv, hL, hl, hI, hC, hM, hS⟩ := hLS
  have hen := hI.en (ix x) (e := 4) (by decide) (by decide) (by decide) (by decide)
  refine prI hM hS ?_ hL hl (d_cancel hI.le hC x) (fun h2 hm => m_cancel hI.le hm x (fun _ => hen.1.stt S) (fun z z2 => end_cnt hI.le hI.2 hI.1.1.self (isN_ix hI.le z) (Or.inr rfl) z2 (by decide) (by decide) (fun z3 => z2 (by rw [z3]; decide))))
  unfold zCan
  by_cases c1 : isN N x = true
  · rw [if_pos c1]
    by_cases c2 : 3 ≤ F 5 (ix x)
    · rw [if_pos c2]; exact hI
    · rw [if_neg c2]; exact hen.inv S
  · rw [if_neg c1]; exact hI
theorem p_revive {G : GC} {B n : Nat} {h : HT} (hLS : LSt B n h) (x : Int32) : PrI G B M8_revive M9_revive [.int x] n h 0 0 := by
  obtain ⟨N, S, F, f, L, pt, len, C, sv, hL, hl, hI, hC, hM, hS⟩ := hLS
  refine prI hM hS ?_ hL hl (d_revive hI.le hC x) (fun h2 hm => m_revive hI.le hm x (fun _ => (hI.rv (ix x)).1.stt S))
  unfold zRev
  by_cases c1 : isN N x = true
  · rw [if_pos c1]
    by_cases c2 : 3 < F 5 (ix x)
    · rw [if_pos c2]; exact (hI.rv (ix x)).inv S
    · rw [if_neg c2]; exact hI
  · rw [if_neg c1]; exact hI
theorem p_giveBack {G : GC} {B n : Nat} {h : HT} (hLS : LSt B n h) (x r p : Int32) : PrI G B M8_giveBack M9_giveBack [.int x, .int r, .int p] n h 0 0 := by
  obtain ⟨N, S, F, f, L, pt, len, C, sv, hL, hl, hI, hC, hM, hS⟩ := hLS
  refine prI hM hS ?_ hL hl (d_giveBack hI.le hC x r p) (fun h2 hm => m_giveBack hI.le hm x r p (fun z z2 => ?_) (fun _ q => (hI.1.cb S (ix x) q).1.stt S))
  · unfold zGiv
    by_cases c1 : isN N x = true
    · rw [if_pos c1]
      by_cases c2 : wth p 0 10 = true
      · rw [if_pos c2]
        by_cases c3 : F 5 (ix x) = 2 ∧ F 10 (ix x) = r
        · rw [if_pos c3]; exact (hI.1.cb S (ix x) _).inv S
        · rw [if_neg c3]; exact hI
      · rw [if_neg c2]; exact hI
    · rw [if_neg c1]; exact hI
  · obtain ⟨-, -, t, k, g1, g2, g3, g4, g5, g6, g7⟩ := hI.1.2 (ix x) (isN_ix hI.le z)
    exact ⟨k, (g7 z2).1, g3, g5⟩
theorem p_tick {G : GC} {B n : Nat} {h : HT} (hLS : LSt B n h) (x : Int32) : PrI G B M8_tick M9_tick [.int x] n h 0 0 := by
  obtain ⟨N, S, F, f, L, pt, len, C, sv, hL, hl, hI, hC, hM, hS⟩ := hLS
  refine prI hM hS ?_ hL hl (d_tick hI.le hC x) (fun h2 hm => m_tick hI.le hm x (fun _ k _ => (hI.tk S k).2))
  unfold zTic
  by_cases c1 : wth x 1 30 = true
  · rw [if_pos c1]; exact (hI.tk S (ix x)).1
  · rw [if_neg c1]; exact hI
theorem p_add {G : GC} {B n : Nat} {h : HT} (hLS : LSt B n h) (p k t g d : Int32) : PrI G B M8_add M9_add [.int p, .int k, .int t, .int g, .int d] n h 0 0 := by
  obtain ⟨N, S, F, f, L, pt, len, C, sv, hL, hl, hI, hC, hM, hS⟩ := hLS
  have hA : N < 20 → Ac (N + 1) (apF F N p k t g d) := by
    intro hN
    have := (hI.ap hN (p := p) (k := 1) (t := 1) (g := g) (d := d) (by decide) (by decide)).1
    refine Ac_cong this (fun i _ => ?_) (fun i _ => ?_)
    · rw [apF_at, apF_at]; rfl
    · rw [apF_at, apF_at]; rfl
  have hb : ∀ i, i < N → bt (F 11 i) N = false ∧ bt (F 12 i) N = false := by
    intro i hi
    cases hz : bt (prd F i) N with
    | true => have := hI.1.1.2.2 i hi N hz; omega
    | false =>
      rw [bt_prd, Bool.or_eq_false_iff] at hz
      exact hz
  refine prI hM hS ?_ hL hl (d_add hI.le hC p k t g d) (fun h2 hm => m_add hI.le hm p k t g d hb (fun z => (hA z).stt S) (fun z => hI.ad z S p k t g d))
  unfold zAdd
  by_cases c1 : (wth p 0 9 && wth k 1 20 && wth t 1 5 && wth g 0 3 && wth d 0 20) = true
  · rw [if_pos c1]
    by_cases c2 : N = 20
    · rw [if_pos c2]; exact hI
    · rw [if_neg c2]
      have hlt : N < 20 := by have := hI.le; omega
      simp only [Bool.and_eq_true] at c1
      show Inv (N + 1) (uF (uF (uF (apF F N p k t g d) 5 N 1) 6 N (S 1 + d)) 7 N (S 1))
      rw [← hI.ad hlt S]
      exact (hI.ap hlt c1.1.1.1.2 c1.1.1.2).inv S
  · rw [if_neg c1]; exact hI
theorem p_link {G : GC} {B n : Nat} {h : HT} (hLS : LSt B n h) (x y k : Int32) : PrI G B M8_link M9_link [.int x, .int y, .int k] n h 0 0 := by
  obtain ⟨N, S, F, f, L, pt, len, C, sv, hL, hl, hI, hC, hM, hS⟩ := hLS
  have hN := hI.le
  obtain ⟨rk, hr, hk⟩ := hI.1.1.2.1
  have hB := hI.1.1.2.2
  have hxy : (isN N x && isN N y) = true → ∃ i j, i < N ∧ j < N ∧ x = nI i ∧ y = nI j := by
    intro z
    rw [Bool.and_eq_true] at z
    obtain ⟨i, hi, e1⟩ := isN_of hN z.1
    obtain ⟨j, hj, e2⟩ := isN_of hN z.2
    exact ⟨i, j, hi, hj, e1, e2⟩
  have hD : zCyc N (bfN F N) x y k = true → bt (rg F N (ix x) (dsW F N (ix y) (ix x))) (ix y) = true := by
    intro z
    unfold zCyc at z
    rw [Bool.and_eq_true] at z
    obtain ⟨i, j, hi, hj, rfl, rfl⟩ := hxy z.1
    have z2 := z.2
    rw [Bool.and_eq_true] at z2
    have z2 := z2.2
    rw [ix_nI (by omega), ix_nI (by omega)] at z2 ⊢
    obtain ⟨d, hd⟩ := (cyc_iff hN hr hB hi hj).mp z2
    have := (rg_rk hN hr hB hi d j hd).2
    have := hk i hi
    exact rg_ds ⟨d, by omega, hd⟩
  have hpi : (isN N x && isN N y) = true → (decide (x = y) || bt (bfN F N (ix x)) (ix y)) = false → PI N (ptF F (ix x) (ix y) k) := by
    intro z z2
    obtain ⟨i, j, hi, hj, rfl, rfl⟩ := hxy z
    rw [ix_nI (by omega), ix_nI (by omega)] at z2 ⊢
    exact hI.pt hi hj k z2
  have hB2 : (isN N x && isN N y) = true → ∀ i, i < N → ∀ p, bt (prd (stl S N 1000 (ptF F (ix x) (ix y) k)) i) p = true → p < N := by
    intro z i hi p hp
    obtain ⟨a, b, ha, hb, rfl, rfl⟩ := hxy z
    rw [ix_nI (by omega), ix_nI (by omega)] at hp
    unfold prd at hp
    rw [stl_o S N 1000 _ 11 (by decide) (by decide) (by decide), stl_o S N 1000 _ 12 (by decide) (by decide) (by decide)] at hp
    by_cases e : i = b
    · obtain ⟨b1, b2⟩ := bt_pt F (show a < 32 by omega) b k p
      rw [e, b_or, b1, b2] at hp
      by_cases ep : p = a
      · omega
      · rw [if_neg ep, if_neg ep] at hp
        exact hB b hb p (by rw [bt_prd]; exact hp)
    · rw [ptF_i F a b k 11 e, ptF_i F a b k 12 e] at hp
      exact hB i hi p hp
  have hnew : Inv N (zLnk N S F (bfN F N) x y k).2 := by
    unfold zLnk
    by_cases c1 : (isN N x && isN N y) = true
    · rw [if_pos c1]
      by_cases c2 : wth k 0 1 = true
      · rw [if_pos c2]
        by_cases c3 : (decide (x = y) || bt (bfN F N (ix x)) (ix y)) = true
        · rw [if_pos c3]; exact hI
        · rw [if_neg c3]
          by_cases c4 : F 5 (ix y) = 0 ∨ F 5 (ix y) = 1
          · rw [if_pos c4]; exact (hpi c1 (Bool.not_eq_true _ ▸ c3)).inv S
          · rw [if_neg c4]; exact hI
      · rw [if_neg c2]; exact hI
    · rw [if_neg c1]; exact hI
  refine jj_mono (d_link hN hC x y k (bfN F N) hI.bf hD) (fun r n2 h2 q => ?_)
  obtain ⟨q1, q2, q3, wl', pt', q4, q5⟩ := q
  have hM2 : ML B 51 N S F L pt len C sv h2 := hM.kept (fun k k1 _ => q3 k k1)
  refine ⟨_, q1, hM2.obj, ?_⟩
  rw [q2]
  refine jj_mono (m_link hN hM2 hI.gr hL x y k (fun z _ z2 => (hpi z z2).1.stt S) (fun z _ => ed_eq hN (hB2 z))) (fun r3 n3 h3 z => ?_)
  obtain ⟨z1, z2, z3, z4⟩ := z
  obtain ⟨L', hL', rfl, hM3⟩ := z4 wl' pt' q5
  refine ⟨z1, ?_⟩
  rw [z2]
  exact ⟨N, S, _, f, L', pt', len, C, sv, hL', hl, hnew, q4.kept (fun k hk => z3 k (Or.inl hk)), hM3, (hS.kept (fun k hk => q3 k (by omega))).kept (fun k hk => z3 k (Or.inr hk))⟩
/-! plans -/
theorem wth_16 {W : Nat} (h1 : 1 ≤ W) (h2 : W ≤ 6) : wth (nI W) 1 6 = true := decide_eq_true ⟨nI_le (a := 1) (b := W) h1 (by omega), nI_le (a := W) (b := 6) h2 (by omega)⟩
theorem p_planLength {G : GC} {B n : Nat} {h : HT} (hLS : LSt B n h) (x p : Int32) : PrI G B M8_planLength M9_planLength [.int x, .int p] n h 0 0 := by
  obtain ⟨N, S, F, f, L, pt, len, C, sv, hL, hl, hI, hC, hM, hS⟩ := hLS
  obtain ⟨rk, hr, hk⟩ := hI.1.1.2.1
  by_cases c : (wth x 1 6 && wth p 0 2) = true
  · rw [Bool.and_eq_true] at c
    obtain ⟨W, w1, w6, rfl⟩ := wth16 c.1
    obtain ⟨tf, t1, t2, t3⟩ := plan_class (pol := p) (hg := fun i => nI (hgN F N i)) hI.le hI.s0 w6 w1 hI.w1 hI.gr.2.1 hr
    refine prI hM hS hI hL hl (d_planLength hI.le hC (nI W) p _ (fun i => nI (hgN F N i)) hI.ht (fun _ Hh V Lr hh => (t3 Hh V Lr hh).1)) (fun h2 hm => m_planLength hI.le hm hI.gr hI.w1 (nI W) p _ (fun W' h1 h6 he _ => ?_))
    have : W = W' := nI_inj (by omega) (by omega) he
    subst this
    exact ⟨tf, ⟨t1, t2⟩, rfl⟩
  · refine prI hM hS hI hL hl (d_planLength hI.le hC x p 0 (fun i => nI (hgN F N i)) hI.ht (fun z => absurd z c)) (fun h2 hm => m_planLength hI.le hm hI.gr hI.w1 x p 0 (fun W' h1 h6 he hp => ?_))
    exact absurd (by rw [he, wth_16 h1 h6, hp]; rfl) c
theorem p_planStart {G : GC} {B n : Nat} {h : HT} (hLS : LSt B n h) (x y p : Int32) : PrI G B M8_planStart M9_planStart [.int x, .int y, .int p] n h 0 0 := by
  obtain ⟨N, S, F, f, L, pt, len, C, sv, hL, hl, hI, hC, hM, hS⟩ := hLS
  obtain ⟨rk, hr, hk⟩ := hI.1.1.2.1
  have hN := hI.le
  by_cases c : (wth y 1 6 && wth p 0 2) = true
  · have c2 := c
    rw [Bool.and_eq_true] at c2
    obtain ⟨W, w1, w6, rfl⟩ := wth16 c2.1
    obtain ⟨tf, t1, t2, t3⟩ := plan_class (pol := p) (hg := fun i => nI (hgN F N i)) hI.le hI.s0 w6 w1 hI.w1 hI.gr.2.1 hr
    refine prI hM hS hI hL hl (d_planStart hI.le hC x (nI W) p (enc (STF F N p (fun i => nI (hgN F N i)) W tf (ix x))) (fun i => nI (hgN F N i)) hI.ht (fun z _ z3 Hh V Lr hh => (t3 Hh V Lr hh).2 (ix x) (isN_ix hN z) (opF_t.mpr z3))) (fun h2 hm => m_planStart hI.le hm hI.gr hI.w1 x (nI W) p _ (fun W' i h1 h6 he _ hi hx => ?_))
    have : W = W' := nI_inj (by omega) (by omega) he
    subst this
    refine ⟨tf, ⟨t1, t2⟩, fun _ => ?_⟩
    rw [hx, ix_nI (by omega)]
  · refine prI hM hS hI hL hl (d_planStart hI.le hC x y p 0 (fun i => nI (hgN F N i)) hI.ht (fun _ z => absurd z c)) (fun h2 hm => m_planStart hI.le hm hI.gr hI.w1 x y p 0 (fun W' i h1 h6 he hp _ _ => ?_))
    exact absurd (by rw [he, wth_16 h1 h6, hp]; rfl) c
theorem p_bestWorkers {G : GC} {B n : Nat} {h : HT} (hLS : LSt B n h) (p : Int32) : PrI G B M8_bestWorkers M9_bestWorkers [.int p] n h 0 0 := by
  obtain ⟨N, S, F, f, L, pt, len, C, sv, hL, hl, hI, hC, hM, hS⟩ := hLS
  obtain ⟨rk, hr, hk⟩ := hI.1.1.2.1
  have ex : ∀ W : Nat, ∃ v : Int32, 1 ≤ W → W ≤ 6 → ∃ tf, PlH F N p (fun i => nI (hgN F N i)) W tf ∧ v = nI (mxN (opF F) (enS (wkN F) (STF F N p (fun i => nI (hgN F N i)) W tf)) N) ∧ ∀ (Hh : Nat → Int32) (V : Nat → Int32) (P : Nat → Nat → Int32), (∀ i, i < N → Hh i = nI (hgN F N i)) → (mkL F N Hh p 21 (mkV F N (nI W) V) P).1 0 = v := by
    intro W
    by_cases hW : 1 ≤ W ∧ W ≤ 6
    · obtain ⟨tf, t1, t2, t3⟩ := plan_class (pol := p) (hg := fun i => nI (hgN F N i)) hI.le hI.s0 hW.2 hW.1 hI.w1 hI.gr.2.1 hr
      exact ⟨_, fun _ _ => ⟨tf, ⟨t1, t2⟩, rfl, fun Hh V P hh => (t3 Hh V P hh).1⟩⟩
    · exact ⟨0, fun h1 h2 => absurd ⟨h1, h2⟩ hW⟩
  obtain ⟨pl, hpl⟩ := Classical.axiomOfChoice ex
  refine prI hM hS hI hL hl (d_bestWorkers hI.le hC p pl (fun i => nI (hgN F N i)) hI.ht (fun _ k h1 h6 Hh V Lr hh => ?_)) (fun h2 hm => m_bestWorkers hI.le hm hI.gr hI.w1 p pl (fun W h1 h6 _ => ?_))
  · obtain ⟨tf, -, -, t⟩ := hpl k h1 h6
    exact t Hh V Lr hh
  · obtain ⟨tf, t1, t2, -⟩ := hpl W h1 h6
    exact ⟨tf, t1, t2⟩
/-! load, and the saved queues -/
theorem p_load {G : GC} {B n : Nat} {h : HT} (hLS : LSt B n h) : PrI G B M8_load M9_load [] n h 0 0 := by
  obtain ⟨N, S, F, f, L, pt, len, C, sv, hL, hl, hI, hC, hM, hS⟩ := hLS
  have hv : ∀ Fd, (rdS C len Fd).1 = (rdS C len F).1 ∧ (rdS C len Fd).2.1 ≤ 20 := fun Fd => ⟨(rdS_Ag C len Fd F).1, (rdS_RD C len Fd).1⟩
  have hpi : ∀ Fd, PI (rdS C len Fd).2.1 (ldF C len Fd F) := fun Fd => RD.pi (rdS_RD C len Fd).1 (ldF_RD C len Fd F)
  refine jj_mono (d_load hI.le hC hl (rdS C len F).1 hv) (fun r n2 h2 q => ?_)
  obtain ⟨q1, q2, q3⟩ := q
  have hM2 : ML B 51 N S F L pt len C sv h2 := hM.kept (fun k k1 _ => q2 k k1)
  by_cases c : (rdS C len F).1 = -7
  · rw [if_pos c] at q3
    obtain ⟨Fd, q4, q5⟩ := q3
    refine ⟨_, q4, hM2.obj, ?_⟩
    rw [q1]
    refine jj_mono (m_load hI.le hM2 hl Fd (fun _ => (hpi Fd).1.stt S)) (fun r3 n3 h3 z => ?_)
    obtain ⟨z1, z2, z3⟩ := z
    rw [if_pos ((hv Fd).1.trans c)] at z3
    refine ⟨z3.1, ?_⟩
    rw [z1]
    exact ⟨_, S, stl S (rdS C len Fd).2.1 1000 (ldF C len Fd F), f, 0, pt, len, C, sv, by omega, hl, (hpi Fd).inv S, CL.kept q5 (fun k hk => z2 k (Or.inl hk)), z3.2, (hS.kept (fun k hk => q2 k (by omega))).kept (fun k hk => z2 k (Or.inr hk))⟩
  · rw [if_neg c] at q3
    refine ⟨_, q3.1, hM2.obj, ?_⟩
    rw [q1]
    refine jj_mono (m_load hI.le hM2 hl F (fun _ => (hpi F).1.stt S)) (fun r3 n3 h3 z => ?_)
    obtain ⟨z1, z2, z3⟩ := z
    rw [if_neg c] at z3
    refine ⟨z3.1, ?_⟩
    rw [z1]
    exact ⟨N, S, F, f, L, pt, len, C, sv, hL, hl, hI, q3.2.kept (fun k hk => z2 k (Or.inl hk)), z3.2, (hS.kept (fun k hk => q2 k (by omega))).kept (fun k hk => z2 k (Or.inr hk))⟩
theorem MW_cong {N : Nat} {S : Nat → Int32} {F F' : Nat → Nat → Int32} {w : Nat → Int32} (hm : MW N S F w) (h : ∀ a i, i < N → F' a i = F a i) : MW N S F' w := by
  obtain ⟨m0, m1, m2, m3⟩ := hm
  refine ⟨m0, m1, fun i hi => (m2 i hi).cong (fun a _ => rfl) (fun a => h a i hi), fun p i hp hi => ?_⟩
  rw [m3 p i hp hi]
  unfold kd
  rw [h 11 i hi, h 12 i hi]
theorem cp_cong {F F' : Nat → Nat → Int32} {N : Nat} (hN : N ≤ 20) : ∀ a i, i < N → (fun j => cp (F j) (F' j)) a i = F a i := fun a i hi => cp_lt (F a) (F' a) (by omega)
theorem Inv_cp {F F' : Nat → Nat → Int32} {N : Nat} (hI : Inv N F) : Inv N (fun j => cp (F j) (F' j)) := Inv_cong hI (fun i hi => ⟨cp_cong hI.le 1 i hi, cp_cong hI.le 2 i hi, cp_cong hI.le 5 i hi, cp_cong hI.le 9 i hi, cp_cong hI.le 11 i hi, cp_cong hI.le 12 i hi⟩)
theorem p_restore {G : GC} {B n : Nat} {h : HT} (hLS : LSt B n h) (x : Int32) : PrI G B M8_restore M9_restore [.int x] n h 0 0 := by
  obtain ⟨N, S, F, f, L, pt, len, C, sv, hL, hl, hI, hC, hM, hS⟩ := hLS
  by_cases c : wth x 0 1 = true
  · have hs : ∃ s, s < 2 ∧ x = nI s := by
      have z := of_decide_eq_true c
      rcases le1_01 z.1 (Int32.not_lt.mpr z.2) with q | q
      · exact ⟨0, by omega, q⟩
      · exact ⟨1, by omega, q⟩
    obtain ⟨s, hs, rfl⟩ := hs
    rcases hS.2.1 s hs with ⟨q1, q2⟩ | ⟨a, N', S', F', q1, q2, q3, q4, q5, q6⟩
    · exact prI hM hS hI hL hl (d_restoreNo hI.le hC hs q1) (fun h2 hm => m_restoreNo hI.le hm hs q2)
    · refine prI (L' := 0) hM hS (Inv_cp (F' := F) q6) (by omega) hl (d_restoreYes hI.le hC hs (by omega) q1 q5) (fun h2 hm => ?_)
      refine jj_mono (m_restoreYes hI.le hm hs q4 q6.le) (fun r3 n3 h3 z => ?_)
      obtain ⟨z1, z2, ⟨A, Wy, V, hh, hw, ha⟩, z4⟩ := z
      exact ⟨z1, z2, ⟨A, Wy, V, hh, MW_cong hw (cp_cong q6.le), ha⟩, z4⟩
  · have c : wth x 0 1 = false := by
      cases hz : wth x 0 1 with
      | true => exact absurd hz c
      | false => rfl
    exact prI hM hS hI hL hl (d_restoreBad hI.le hC x c) (fun h2 hm => m_restoreBad hI.le hm x c)
theorem svF {B m N : Nat} {S : Nat → Int32} {F F' : Nat → Nat → Int32} {L : Nat} {pt : Nat → Int32} {len : Nat} {C : Nat → Int32} {sv : Nat → Option (Nat × (Nat → Int32) × (Nat → Nat → Int32))} {h : HT} {s : Nat} (hF : ∀ a i, i < N → F' a i = F a i) (hM : ML B m N S F L pt len C (upS sv s (N, S, F)) h) : ML B m N S F L pt len C (upS sv s (N, S, F')) h := by
  obtain ⟨A, Wy, V, hh, a0, a1, a2, a3, a4, a5⟩ := hM
  refine ⟨A, Wy, V, hh, a0, a1, a2, a3, a4, fun q hq => ?_⟩
  obtain ⟨b1, b2⟩ := a5 q hq
  unfold upS at b1 b2 ⊢
  by_cases e : q = s
  · rw [if_pos e] at b1 b2 ⊢
    refine ⟨b1, fun N2 S2 F2 he => ?_⟩
    cases he
    exact MW_cong (b2 N S F rfl) hF
  · rw [if_neg e] at b1 b2 ⊢
    exact ⟨b1, b2⟩
theorem p_save {G : GC} {B n : Nat} {h : HT} (hLS : LSt B n h) (x : Int32) : PrI G B M8_save M9_save [.int x] n h 14 278 := by
  obtain ⟨N, S, F, f, L, pt, len, C, sv, hL, hl, hI, hC, hM, hS⟩ := hLS
  by_cases c : wth x 0 1 = true
  · have hs : ∃ s, s < 2 ∧ x = nI s := by
      have z := of_decide_eq_true c
      rcases le1_01 z.1 (Int32.not_lt.mpr z.2) with q | q
      · exact ⟨0, by omega, q⟩
      · exact ⟨1, by omega, q⟩
    obtain ⟨s, hs, rfl⟩ := hs
    obtain ⟨s1, s2, s3, s4⟩ := hS
    have hsv : ∀ q N' S' F', sv q = some (N', S', F') → N' ≤ 20 := by
      intro q N' S' F' hq
      rcases Nat.lt_or_ge q 2 with z | z
      · rcases s2 q z with ⟨-, y⟩ | ⟨a, N2, S2, F2, -, -, -, y, -, y2⟩
        · rw [y] at hq; cases hq
        · rw [y] at hq; cases hq; exact y2.le
      · rw [s3 q z] at hq; cases hq
    rcases s2 s hs with ⟨q1, q2⟩ | ⟨a, N', S', F', q1, q2, q3, q4, q5, q6⟩
    · refine jj_mono (d_saveNew hI.le hC hs (by omega) q1) (fun r n2 h2 q => ?_)
      obtain ⟨y1, y2, y3, y4, y5⟩ := q
      have hM2 : ML B 51 N S F L pt len C sv h2 := hM.kept (fun k k1 k2 => y5 k k1 (by omega))
      refine ⟨_, y1, hM2.obj, ?_⟩
      rw [y2]
      refine jj_mono (m_save hI.le hM2 hs hsv) (fun r3 n3 h3 z => ?_)
      obtain ⟨z1, z2, z3, z4⟩ := z
      refine ⟨z1, ?_⟩
      rw [z2]
      have hin := Inv_cp (F' := fun _ _ => 0) hI
      refine ⟨N, S, F, va_up f s (some (B + n)), L, pt, len, C, _, hL, hl, hI, y3.kept (fun k hk => z4 k (Or.inl hk)), svF (F' := fun j => cp (F j) (fun _ => 0)) (cp_cong hI.le) z3, by omega, fun t ht => ?_, fun t ht => ?_, fun t u a b ht hu htu e1 e2 => ?_⟩
      · by_cases e : t = s
        · right
          refine ⟨n, N, S, fun j => cp (F j) (fun _ => 0), by rw [e, va_up_s], by omega, by omega, by unfold upS; rw [if_pos e], y4.kept (fun k k1 _ => z4 k (Or.inr (by omega))), hin⟩
        · rw [va_up_n e]
          unfold upS
          rw [if_neg e]
          rcases s2 t ht with w | ⟨a, N2, S2, F2, w1, w2, w3, w4, w5, w6⟩
          · exact Or.inl w
          · exact Or.inr ⟨a, N2, S2, F2, w1, w2, by omega, w4, w5.kept (fun k k1 k2 => (z4 k (Or.inr (by omega))).trans (y5 k (by omega) (by omega))), w6⟩
      · unfold upS
        rw [if_neg (by omega)]
        exact s3 t ht
      · have old : ∀ v c, v < 2 → v ≠ s → va_up f s (some (B + n)) v = some (B + c) → c + 14 ≤ n := by
          intro v c hv hvs hvc
          rw [va_up_n hvs] at hvc
          rcases s2 v hv with ⟨w, -⟩ | ⟨a2, N2, S2, F2, w1, w2, w3, -⟩
          · rw [w] at hvc; cases hvc
          · rw [w1] at hvc
            have : B + a2 = B + c := Option.some.inj hvc
            omega
        by_cases et : t = s
        · have hb := old u b hu (fun z => htu (et.trans z.symm)) e2
          rw [et, va_up_s] at e1
          have : B + n = B + a := Option.some.inj e1
          omega
        · by_cases eu : u = s
          · have hb := old t a ht et e1
            rw [eu, va_up_s] at e2
            have : B + n = B + b := Option.some.inj e2
            omega
          · rw [va_up_n et] at e1
            rw [va_up_n eu] at e2
            exact s4 t u a b ht hu htu e1 e2
    · refine jj_mono (d_saveOld hI.le hC hs (by omega) q1 q5) (fun r n2 h2 q => ?_)
      obtain ⟨y1, y2, y3, y4, y5⟩ := q
      have hM2 : ML B 51 N S F L pt len C sv h2 := hM.kept (fun k k1 k2 => y5 k k1 (Or.inl (by omega)))
      refine ⟨_, y1, hM2.obj, ?_⟩
      rw [y2]
      refine jj_mono (m_save hI.le hM2 hs hsv) (fun r3 n3 h3 z => ?_)
      obtain ⟨z1, z2, z3, z4⟩ := z
      refine ⟨z1, ?_⟩
      rw [z2]
      have hin := Inv_cp (F' := F') hI
      refine ⟨N, S, F, f, L, pt, len, C, _, hL, hl, hI, y3.kept (fun k hk => z4 k (Or.inl hk)), svF (F' := fun j => cp (F j) (F' j)) (cp_cong hI.le) z3, s1, fun t ht => ?_, fun t ht => ?_, s4⟩
      · by_cases e : t = s
        · right
          refine ⟨a, N, S, fun j => cp (F j) (F' j), by rw [e]; exact q1, q2, q3, by unfold upS; rw [if_pos e], y4.kept (fun k k1 _ => z4 k (Or.inr (by omega))), hin⟩
        · unfold upS
          rw [if_neg e]
          rcases s2 t ht with w | ⟨a2, N2, S2, F2, w1, w2, w3, w4, w5, w6⟩
          · exact Or.inl w
          · have hd := s4 t s a2 a ht hs e w1 q1
            exact Or.inr ⟨a2, N2, S2, F2, w1, w2, w3, w4, w5.kept (fun k k1 k2 => (z4 k (Or.inr (by omega))).trans (y5 k (by omega) (by omega))), w6⟩
      · unfold upS
        rw [if_neg (by omega)]
        exact s3 t ht
  · have c : wth x 0 1 = false := by
      cases hz : wth x 0 1 with
      | true => exact absurd hz c
      | false => rfl
    refine jj_mono (d_saveBad hI.le hC x c) (fun r n2 h2 q => ?_)
    obtain ⟨q1, q2, q3, q4⟩ := q
    have hM2 : ML B 51 N S F L pt len C sv h2 := hM.kept (fun k k1 _ => q4 k k1)
    refine ⟨_, q1, hM2.obj, ?_⟩
    rw [q2]
    refine jj_mono (m_saveBad hI.le hM2 x c) (fun r3 n3 h3 z => ?_)
    obtain ⟨z1, z2, z3, z4⟩ := z
    refine ⟨z1, ?_⟩
    rw [z2]
    exact ⟨N, S, F, f, L, pt, len, C, sv, hL, hl, hI, q3.kept (fun k hk => z4 k (Or.inl hk)), z3, (hS.kept (fun k hk => q4 k (by omega))).kept (fun k hk => z4 k (Or.inr hk))⟩
