/-! text, slots and constructor of the reference -/
set_option maxHeartbeats 4000000 in
set_option maxRecDepth 100000 in
 theorem m_wipe {G : GC} {B n m N : Nat} {S : Nat → Int32} {F : Nat → Nat → Int32} {L : Nat} {pt : Nat → Int32} {len : Nat} {C : Nat → Int32} {sv : Nat → Option (Nat × (Nat → Int32) × (Nat → Nat → Int32))} {h : HT} (hN : N ≤ 20) (hM : ML B m N S F L pt len C sv h) : CtJ G B M9_wipe [.ref (B + m)] n h 0 0 (fun r2 n2 h2 => r2 = some (.int (nI len)) ∧ n2 = n ∧ ML B m N S F L pt 0 C sv h2 ∧ tk m h h2) := by
  obtain ⟨A, Wy, V, hh, ha⟩ := hM
  have hw0 := ha.1.1
  have fin0 : ML B m N S F L pt len C sv (wM B m A Wy V h) ∧ tk m h (wM B m A Wy V h) := MLa.fin ha
  unfold CtJ
  refine jj_lv (lv' := [some (.ref (B + m)), none]) rfl ?_
  refine jj_h hh ?_
  refine jj_s (pc' := 1) rfl rfl ?_
  refine jj_g rfl rfl wM_o rfl ?_
  refine jj_s (pc' := 5) rfl rfl ?_
  refine jj_s (pc' := 6) rfl rfl ?_
  refine jj_s (pc' := 7) rfl rfl ?_
  refine jj_mpt rfl rfl rfl rfl rfl rfl ?_
  rw [ha.2.2.2.1]
  refine jj_s (pc' := 11) rfl rfl ?_
  refine jj_iret rfl rfl ⟨rfl, rfl, MLa.fin ?_⟩
  obtain ⟨a0, a1, a2, a3, a4, a5⟩ := ha
  exact ⟨a0, a1, a2, rfl, fun j hj => absurd hj (by omega), a5⟩
set_option maxHeartbeats 4000000 in
set_option maxRecDepth 100000 in
 theorem m_write {G : GC} {B n m N : Nat} {S : Nat → Int32} {F : Nat → Nat → Int32} {L : Nat} {pt : Nat → Int32} {len : Nat} {C : Nat → Int32} {sv : Nat → Option (Nat × (Nat → Int32) × (Nat → Nat → Int32))} {h : HT} (hN : N ≤ 20) (hM : ML B m N S F L pt len C sv h) (hl : len ≤ 200) (x : Int32) : CtJ G B M9_write [.ref (B + m), .int x] n h 0 0 (fun r2 n2 h2 => r2 = some (.int ((zWri len C x).1)) ∧ n2 = n ∧ ML B m N S F L pt (zWri len C x).2.1 (zWri len C x).2.2 sv h2 ∧ tk m h h2) := by
  obtain ⟨A, Wy, V, hh, ha⟩ := hM
  have hw0 := ha.1.1
  have fin0 : ML B m N S F L pt len C sv (wM B m A Wy V h) ∧ tk m h (wM B m A Wy V h) := MLa.fin ha
  unfold CtJ
  refine jj_lv (lv' := [some (.ref (B + m)), some (.int x)]) rfl ?_
  refine jj_h hh ?_
  refine jj_s (pc' := 1) rfl rfl ?_
  refine jj_s (pc' := 3) rfl rfl ?_
  refine jj_s (pc' := 5) rfl rfl ?_
  refine jj_t3 rfl rfl rfl rfl rfl (c9_isIn x 32 126) ?_
  refine jj_zF 14 rfl rfl (fun c1 => ?_) (fun c1 => ?_)
  · refine jj_s (pc' := 15) rfl rfl ?_
    refine jj_g rfl rfl wM_o rfl ?_
    refine jj_s (pc' := 21) rfl rfl ?_
    rw [ha.2.2.2.1]
    refine jj_icmp_ne 27 rfl rfl (fun c2 => ?_) (fun c2 => ?_)
    · have hlt : len < 200 := by
        rcases Nat.lt_or_ge len 200 with z | z
        · exact z
        · exact absurd (by rw [show len = 200 by omega]; rfl) c2
      have e : zWri len C x = (nI (len + 1), len + 1, upd C len x) := by rw [zWri, if_pos c1, if_neg (by omega)]
      rw [e]
      refine jj_s (pc' := 28) rfl rfl ?_
      refine jj_g rfl rfl wM_o rfl ?_
      refine jj_s (pc' := 32) rfl rfl ?_
      refine jj_g rfl rfl wM_o rfl ?_
      rw [ha.2.2.2.1]
      refine jj_s (pc' := 36) rfl rfl ?_
      refine jj_mst (j := 3) 200 rfl rfl (by decide) (by omega) ?_
      refine jj_s (pc' := 38) rfl rfl ?_
      refine jj_s (pc' := 39) rfl rfl ?_
      refine jj_g rfl rfl wM_o rfl ?_
      refine jj_s (pc' := 43) rfl rfl ?_
      refine jj_s (pc' := 44) rfl rfl ?_
      rw [ha.2.2.2.1]
      refine jj_mpt rfl rfl rfl rfl rfl rfl ?_
      refine jj_s (pc' := 48) rfl rfl ?_
      refine jj_g rfl rfl wM_o rfl ?_
      refine jj_iret rfl rfl ⟨?_, rfl, MLa.fin ?_⟩
      · rw [← nI_1]; rfl
      · obtain ⟨a0, a1, a2, a3, a4, a5⟩ := ha
        refine ⟨by rw [uF_j _ _ _ _ (by decide)]; exact a0, a1, fun j hj => by rw [uF_j _ _ _ _ (by decide)]; exact a2 j hj, ?_, fun j hj => ?_, fun s hs => by rw [uF_j _ _ _ _ (by decide)]; exact a5 s hs⟩
        · rw [← nI_1]; rfl
        · have hj : j < len + 1 := hj
          rw [uF_same]
          show upd (A 3) len x j = upd C len x j
          by_cases z : j = len
          · subst z; rw [pk_us, pk_us]
          · rw [pk_un z, pk_un z]; exact a4 j (by omega)
    · have hlt : len = 200 := (nI_eq (a := len) (b := 200) (by omega) (by omega)).mp c2
      have e : zWri len C x = (-3, len, C) := by rw [zWri, if_pos c1, if_pos hlt]
      rw [e]
      refine jj_s (pc' := 26) rfl rfl ?_
      exact jj_iret rfl rfl ⟨rfl, rfl, fin0⟩
  · have e : zWri len C x = (-2, len, C) := by rw [zWri, if_neg (by rw [c1]; decide)]
    rw [e]
    refine jj_s (pc' := 13) rfl rfl ?_
    exact jj_iret rfl rfl ⟨rfl, rfl, fin0⟩
theorem MW.cong {N : Nat} {S : Nat → Int32} {F : Nat → Nat → Int32} {w w' : Nat → Int32} (hm : MW N S F w) (hN : N ≤ 20) (h : ∀ k, k < 645 → w' k = w k) : MW N S F w' := by
  obtain ⟨m0, m1, m2, m3⟩ := hm
  exact ⟨(h 0 (by omega)).trans m0, fun k k1 k4 => (h k (by omega)).trans (m1 k k1 k4), fun i hi => (m2 i hi).cong (fun a ha => h _ (by omega)) (fun _ => rfl), fun p i hp hi => (h _ (by omega)).trans (m3 p i hp hi)⟩
theorem ixS (s k : Nat) : (Int16.ofInt 645).toInt32 * nI s + nI k = nI (645 * s + k) := by
  rw [show (Int16.ofInt 645).toInt32 = nI 645 from rfl, pk_mul, nI_add]
def upS (sv : Nat → Option (Nat × (Nat → Int32) × (Nat → Nat → Int32))) (s : Nat) (x : Nat × (Nat → Int32) × (Nat → Nat → Int32)) : Nat → Option (Nat × (Nat → Int32) × (Nat → Nat → Int32)) := fun q => if q = s then some x else sv q
set_option maxHeartbeats 4000000 in
set_option maxRecDepth 100000 in
 theorem m_saveBad {G : GC} {B n m N : Nat} {S : Nat → Int32} {F : Nat → Nat → Int32} {L : Nat} {pt : Nat → Int32} {len : Nat} {C : Nat → Int32} {sv : Nat → Option (Nat × (Nat → Int32) × (Nat → Nat → Int32))} {h : HT} (hN : N ≤ 20) (hM : ML B m N S F L pt len C sv h) (x : Int32) (hx : wth x 0 1 = false) : CtJ G B M9_save [.ref (B + m), .int x] n h 0 0 (fun r2 n2 h2 => r2 = some (.int (-2)) ∧ n2 = n ∧ ML B m N S F L pt len C sv h2 ∧ tk m h h2) := by
  obtain ⟨A, Wy, V, hh, ha⟩ := hM
  have hw0 := ha.1.1
  have fin0 : ML B m N S F L pt len C sv (wM B m A Wy V h) ∧ tk m h (wM B m A Wy V h) := MLa.fin ha
  unfold CtJ
  refine jj_lv (lv' := [some (.ref (B + m)), some (.int x), none]) rfl ?_
  refine jj_h hh ?_
  refine jj_s (pc' := 1) rfl rfl ?_
  refine jj_s (pc' := 2) rfl rfl ?_
  refine jj_s (pc' := 3) rfl rfl ?_
  refine jj_t3 rfl rfl rfl rfl rfl (c9_isIn x 0 1) ?_
  refine jj_zF 12 rfl rfl (fun c1 => absurd (hx.symm.trans c1) (by decide)) (fun c1 => ?_)
  refine jj_s (pc' := 11) rfl rfl ?_
  exact jj_iret rfl rfl ⟨rfl, rfl, fin0⟩
set_option maxHeartbeats 4000000 in
set_option maxRecDepth 100000 in
 theorem m_save {G : GC} {B n m N : Nat} {S : Nat → Int32} {F : Nat → Nat → Int32} {L : Nat} {pt : Nat → Int32} {len : Nat} {C : Nat → Int32} {sv : Nat → Option (Nat × (Nat → Int32) × (Nat → Nat → Int32))} {h : HT} (hN : N ≤ 20) (hM : ML B m N S F L pt len C sv h) {s : Nat} (hs : s < 2) (hsv : ∀ q N' S' F', sv q = some (N', S', F') → N' ≤ 20) : CtJ G B M9_save [.ref (B + m), .int (nI s)] n h 0 0 (fun r2 n2 h2 => r2 = some (.int (nI N)) ∧ n2 = n ∧ ML B m N S F L pt len C (upS sv s (N, S, F)) h2 ∧ tk m h h2) := by
  obtain ⟨A, Wy, V, hh, ha⟩ := hM
  have hw0 := ha.1.1
  have fin0 : ML B m N S F L pt len C sv (wM B m A Wy V h) ∧ tk m h (wM B m A Wy V h) := MLa.fin ha
  unfold CtJ
  refine jj_lv (lv' := [some (.ref (B + m)), some (.int (nI s)), none]) rfl ?_
  refine jj_h hh ?_
  refine jj_s (pc' := 1) rfl rfl ?_
  refine jj_s (pc' := 2) rfl rfl ?_
  refine jj_s (pc' := 3) rfl rfl ?_
  refine jj_t3 rfl rfl rfl rfl rfl (c9_isIn (nI s) 0 1) ?_
  refine jj_zF 12 rfl rfl (fun c1 => ?_) (fun c1 => absurd (show 0 ≤ nI s ∧ nI s ≤ 1 from ⟨nI_pos' (by omega), nI_le (a := s) (b := 1) (by omega) (by omega)⟩) (of_decide_eq_false c1))
  refine jj_s (pc' := 13) rfl rfl ?_
  refine jj_s (pc' := 14) rfl rfl ?_
  have L1 : ∀ D k (A1 : Nat → Nat → Int32), k ≤ 645 → 646 ≤ k + D → (∀ j, j ≠ 1 → A1 j = A j) → (∀ q, q < k → A1 1 (645 * s + q) = A 0 q) → (∀ q, q < 645 * s ∨ 645 * s + 645 ≤ q → A1 1 q = A 1 q) → JJ X0 G B M9_save 14 [some (.ref (B + m)), some (.int (nI s)), some (.int (nI k))] [] n (wM B m A1 Wy V h) 0 0 (fun r2 n2 h2 => r2 = some (.int (nI N)) ∧ n2 = n ∧ ML B m N S F L pt len C (upS sv s (N, S, F)) h2 ∧ tk m h h2) := by
    intro D
    induction D with
    | zero => intro k A1 h1 h2; exact absurd h2 (by omega)
    | succ D ih =>
      intro k A1 h1 h2 p0 p1 p2
      have hA0 : A1 0 = A 0 := p0 0 (by decide)
      refine jj_s (pc' := 15) rfl rfl ?_
      refine jj_s (pc' := 18) rfl rfl ?_
      refine jj_geN (b := 645) 45 rfl rfl (by omega) (by omega) (fun ck => ?_) (fun ck => ?_)
      · have hk : k = 645 := by omega
        subst hk
        refine jj_s (pc' := 46) rfl rfl ?_
        refine jj_s (pc' := 47) rfl rfl ?_
        refine jj_g rfl rfl wM_o rfl ?_
        refine jj_s (pc' := 51) rfl rfl ?_
        refine jj_s (pc' := 52) rfl rfl ?_
        refine jj_s (pc' := 53) rfl rfl ?_
        refine jj_s (pc' := 54) rfl rfl ?_
        refine jj_mpt rfl rfl rfl rfl rfl rfl ?_
        have hw0 : A1 0 0 = nI N := by rw [hA0]; exact hw0
        refine jj_s (pc' := 58) rfl rfl ?_
        refine jj_g rfl rfl wM_o rfl ?_
        refine jj_s (pc' := 62) rfl rfl ?_
        refine jj_m0 hw0 rfl ?_
        refine jj_iret rfl rfl ⟨rfl, rfl, MLa.fin ?_⟩
        obtain ⟨a0, a1, a2, a3, a4, a5⟩ := ha
        refine ⟨by rw [hA0]; exact a0, a1, fun j hj => by rw [p0 2 (by decide)]; exact a2 j hj, a3, fun j hj => by rw [p0 3 (by decide)]; exact a4 j hj, fun q hq => ?_⟩
        have eb : bt (upd V 2 (V 2 ||| bit s) 2) q = (bt (V 2) q || decide (q = s)) := by rw [pk_us, b_put (by omega)]
        show SL _ (bt (upd V 2 (V 2 ||| bit s) 2) q) _
        rw [eb]
        unfold upS
        by_cases z : q = s
        · subst z
          rw [if_pos rfl, decide_eq_true rfl, Bool.or_true]
          refine ⟨rfl, fun N' S' F' e => ?_⟩
          cases e
          exact a0.cong hN (fun k hk => p1 k hk)
        · rw [if_neg z, decide_eq_false z, Bool.or_false]
          obtain ⟨b1, b2⟩ := a5 q hq
          refine ⟨b1, fun N' S' F' e => (b2 N' S' F' e).cong (hsv q N' S' F' e) (fun k hk => p2 _ (by omega))⟩
      · refine jj_s (pc' := 22) rfl rfl ?_
        refine jj_g rfl rfl wM_o rfl ?_
        refine jj_s (pc' := 28) rfl rfl ?_
        refine jj_s (pc' := 29) rfl rfl ?_
        refine jj_s (pc' := 30) rfl rfl ?_
        refine jj_s (pc' := 31) rfl rfl ?_
        refine jj_s (pc' := 32) rfl rfl ?_
        refine jj_s (pc' := 33) rfl rfl ?_
        refine jj_g rfl rfl wM_o rfl ?_
        refine jj_s (pc' := 37) rfl rfl ?_
        refine jj_mld 645 rfl rfl (by decide) (by first | assumption | omega) ?_
        refine jj_st (by rw [ixS s k]) ?_
        refine jj_mst (j := 1) 1290 rfl rfl (by decide) (by omega) ?_
        first | refine jj_inc rfl rfl ?_ | refine jj_s (pc' := 42) rfl rfl ?_
        refine jj_s (pc' := 14) rfl rfl ?_
        refine ih (k + 1) _ (by omega) (by omega) (fun j hj => by rw [uF_j _ _ _ _ hj]; exact p0 j hj) (fun q hq => ?_) (fun q hq => ?_)
        · by_cases z : q = k
          · subst z; rw [uF_s, hA0]
          · rw [uF_i _ _ _ _ (by omega)]; exact p1 q (by omega)
        · rw [uF_i _ _ _ _ (by omega)]; exact p2 q hq
  exact L1 646 0 A (by omega) (by omega) (fun j _ => rfl) (fun q hq => absurd hq (by omega)) (fun q _ => rfl)
set_option maxHeartbeats 4000000 in
set_option maxRecDepth 100000 in
 theorem m_restoreBad {G : GC} {B n m N : Nat} {S : Nat → Int32} {F : Nat → Nat → Int32} {L : Nat} {pt : Nat → Int32} {len : Nat} {C : Nat → Int32} {sv : Nat → Option (Nat × (Nat → Int32) × (Nat → Nat → Int32))} {h : HT} (hN : N ≤ 20) (hM : ML B m N S F L pt len C sv h) (x : Int32) (hx : wth x 0 1 = false) : CtJ G B M9_restore [.ref (B + m), .int x] n h 0 0 (fun r2 n2 h2 => r2 = some (.int (-2)) ∧ n2 = n ∧ ML B m N S F L pt len C sv h2 ∧ tk m h h2) := by
  obtain ⟨A, Wy, V, hh, ha⟩ := hM
  have hw0 := ha.1.1
  have fin0 : ML B m N S F L pt len C sv (wM B m A Wy V h) ∧ tk m h (wM B m A Wy V h) := MLa.fin ha
  unfold CtJ
  refine jj_lv (lv' := [some (.ref (B + m)), some (.int x), none]) rfl ?_
  refine jj_h hh ?_
  refine jj_s (pc' := 1) rfl rfl ?_
  refine jj_s (pc' := 2) rfl rfl ?_
  refine jj_s (pc' := 3) rfl rfl ?_
  refine jj_t3 rfl rfl rfl rfl rfl (c9_isIn x 0 1) ?_
  refine jj_zF 12 rfl rfl (fun c1 => absurd (hx.symm.trans c1) (by decide)) (fun c1 => ?_)
  refine jj_s (pc' := 11) rfl rfl ?_
  exact jj_iret rfl rfl ⟨rfl, rfl, fin0⟩
set_option maxHeartbeats 4000000 in
set_option maxRecDepth 100000 in
 theorem m_restoreNo {G : GC} {B n m N : Nat} {S : Nat → Int32} {F : Nat → Nat → Int32} {L : Nat} {pt : Nat → Int32} {len : Nat} {C : Nat → Int32} {sv : Nat → Option (Nat × (Nat → Int32) × (Nat → Nat → Int32))} {h : HT} (hN : N ≤ 20) (hM : ML B m N S F L pt len C sv h) {s : Nat} (hs : s < 2) (hf : sv s = none) : CtJ G B M9_restore [.ref (B + m), .int (nI s)] n h 0 0 (fun r2 n2 h2 => r2 = some (.int (-4)) ∧ n2 = n ∧ ML B m N S F L pt len C sv h2 ∧ tk m h h2) := by
  obtain ⟨A, Wy, V, hh, ha⟩ := hM
  have hw0 := ha.1.1
  have fin0 : ML B m N S F L pt len C sv (wM B m A Wy V h) ∧ tk m h (wM B m A Wy V h) := MLa.fin ha
  unfold CtJ
  refine jj_lv (lv' := [some (.ref (B + m)), some (.int (nI s)), none]) rfl ?_
  refine jj_h hh ?_
  refine jj_s (pc' := 1) rfl rfl ?_
  refine jj_s (pc' := 2) rfl rfl ?_
  refine jj_s (pc' := 3) rfl rfl ?_
  refine jj_t3 rfl rfl rfl rfl rfl (c9_isIn (nI s) 0 1) ?_
  refine jj_zF 12 rfl rfl (fun c1 => ?_) (fun c1 => absurd (show 0 ≤ nI s ∧ nI s ≤ 1 from ⟨nI_pos' (by omega), nI_le (a := s) (b := 1) (by omega) (by omega)⟩) (of_decide_eq_false c1))
  refine jj_s (pc' := 13) rfl rfl ?_
  refine jj_g rfl rfl wM_o rfl ?_
  refine jj_s (pc' := 17) rfl rfl ?_
  refine jj_s (pc' := 18) rfl rfl ?_
  refine jj_s (pc' := 19) rfl rfl ?_
  refine jj_s (pc' := 20) rfl rfl ?_
  have eb : bt (V 2) s = false := by rw [(ha.2.2.2.2.2 s hs).1, hf]; rfl
  refine jj_st (st' := [.int (bI (bt (V 2) s))]) (by rw [← b_has (show s < 32 by omega)]; rfl) ?_
  refine jj_zF 26 rfl rfl (fun c2 => absurd (eb.symm.trans c2) (by decide)) (fun c2 => ?_)
  refine jj_s (pc' := 25) rfl rfl ?_
  exact jj_iret rfl rfl ⟨rfl, rfl, fin0⟩
set_option maxHeartbeats 4000000 in
set_option maxRecDepth 100000 in
 theorem m_restoreYes {G : GC} {B n m N : Nat} {S : Nat → Int32} {F : Nat → Nat → Int32} {L : Nat} {pt : Nat → Int32} {len : Nat} {C : Nat → Int32} {sv : Nat → Option (Nat × (Nat → Int32) × (Nat → Nat → Int32))} {h : HT} (hN : N ≤ 20) (hM : ML B m N S F L pt len C sv h) {s N' : Nat} {S' : Nat → Int32} {F' : Nat → Nat → Int32} (hs : s < 2) (hf : sv s = some (N', S', F')) (hN' : N' ≤ 20) : CtJ G B M9_restore [.ref (B + m), .int (nI s)] n h 0 0 (fun r2 n2 h2 => r2 = some (.int (nI N')) ∧ n2 = n ∧ ML B m N' S' F' 0 pt len C sv h2 ∧ tk m h h2) := by
  obtain ⟨A, Wy, V, hh, ha⟩ := hM
  have hw0 := ha.1.1
  have fin0 : ML B m N S F L pt len C sv (wM B m A Wy V h) ∧ tk m h (wM B m A Wy V h) := MLa.fin ha
  unfold CtJ
  refine jj_lv (lv' := [some (.ref (B + m)), some (.int (nI s)), none]) rfl ?_
  refine jj_h hh ?_
  refine jj_s (pc' := 1) rfl rfl ?_
  refine jj_s (pc' := 2) rfl rfl ?_
  refine jj_s (pc' := 3) rfl rfl ?_
  refine jj_t3 rfl rfl rfl rfl rfl (c9_isIn (nI s) 0 1) ?_
  refine jj_zF 12 rfl rfl (fun c1 => ?_) (fun c1 => absurd (show 0 ≤ nI s ∧ nI s ≤ 1 from ⟨nI_pos' (by omega), nI_le (a := s) (b := 1) (by omega) (by omega)⟩) (of_decide_eq_false c1))
  refine jj_s (pc' := 13) rfl rfl ?_
  refine jj_g rfl rfl wM_o rfl ?_
  refine jj_s (pc' := 17) rfl rfl ?_
  refine jj_s (pc' := 18) rfl rfl ?_
  refine jj_s (pc' := 19) rfl rfl ?_
  refine jj_s (pc' := 20) rfl rfl ?_
  have eb : bt (V 2) s = true := by rw [(ha.2.2.2.2.2 s hs).1, hf]; rfl
  have em := (ha.2.2.2.2.2 s hs).2 N' S' F' hf
  refine jj_st (st' := [.int (bI (bt (V 2) s))]) (by rw [← b_has (show s < 32 by omega)]; rfl) ?_
  refine jj_zF 26 rfl rfl (fun c2 => ?_) (fun c2 => absurd (eb.symm.trans c2) (by decide))
  refine jj_s (pc' := 27) rfl rfl ?_
  refine jj_s (pc' := 28) rfl rfl ?_
  have L1 : ∀ D k (A1 : Nat → Nat → Int32), k ≤ 645 → 646 ≤ k + D → (∀ j, j ≠ 0 → A1 j = A j) → (∀ q, q < k → A1 0 q = A 1 (645 * s + q)) → JJ X0 G B M9_restore 28 [some (.ref (B + m)), some (.int (nI s)), some (.int (nI k))] [] n (wM B m A1 Wy V h) 0 0 (fun r2 n2 h2 => r2 = some (.int (nI N')) ∧ n2 = n ∧ ML B m N' S' F' 0 pt len C sv h2 ∧ tk m h h2) := by
    intro D
    induction D with
    | zero => intro k A1 h1 h2; exact absurd h2 (by omega)
    | succ D ih =>
      intro k A1 h1 h2 p0 p1
      have hA1 : A1 1 = A 1 := p0 1 (by decide)
      refine jj_s (pc' := 29) rfl rfl ?_
      refine jj_s (pc' := 32) rfl rfl ?_
      refine jj_geN (b := 645) 59 rfl rfl (by omega) (by omega) (fun ck => ?_) (fun ck => ?_)
      · have hk : k = 645 := by omega
        subst hk
        have hm' : MW N' S' F' (A1 0) := em.cong hN' (fun k hk => p1 k hk)
        have hw0 := hm'.1
        refine jj_s (pc' := 60) rfl rfl ?_
        refine jj_s (pc' := 61) rfl rfl ?_
        refine jj_mpt rfl rfl rfl rfl rfl rfl ?_
        refine jj_s (pc' := 65) rfl rfl ?_
        refine jj_g rfl rfl wM_o rfl ?_
        refine jj_s (pc' := 69) rfl rfl ?_
        refine jj_m0 hw0 rfl ?_
        refine jj_iret rfl rfl ⟨rfl, rfl, MLa.fin ?_⟩
        obtain ⟨a0, a1, a2, a3, a4, a5⟩ := ha
        refine ⟨hm', rfl, fun j hj => absurd hj (by omega), a3, fun j hj => by rw [p0 3 (by decide)]; exact a4 j hj, fun q hq => ?_⟩
        rw [hA1]
        exact a5 q hq
      · refine jj_s (pc' := 36) rfl rfl ?_
        refine jj_g rfl rfl wM_o rfl ?_
        refine jj_s (pc' := 40) rfl rfl ?_
        refine jj_s (pc' := 41) rfl rfl ?_
        refine jj_g rfl rfl wM_o rfl ?_
        refine jj_s (pc' := 47) rfl rfl ?_
        refine jj_s (pc' := 48) rfl rfl ?_
        refine jj_s (pc' := 49) rfl rfl ?_
        refine jj_s (pc' := 50) rfl rfl ?_
        refine jj_s (pc' := 51) rfl rfl ?_
        refine jj_st (by rw [ixS s k]) ?_
        refine jj_mld (j := 1) 1290 rfl rfl (by decide) (by omega) ?_
        refine jj_mst (j := 0) 645 rfl rfl (by decide) (by omega) ?_
        first | refine jj_inc rfl rfl ?_ | refine jj_s (pc' := 56) rfl rfl ?_
        refine jj_s (pc' := 28) rfl rfl ?_
        refine ih (k + 1) _ (by omega) (by omega) (fun j hj => by rw [uF_j _ _ _ _ hj]; exact p0 j hj) (fun q hq => ?_)
        by_cases z : q = k
        · subst z; rw [uF_s, hA1]
        · rw [uF_i _ _ _ _ (by omega)]; exact p1 q (by omega)
  exact L1 646 0 A (by omega) (by omega) (fun j _ => rfl) (fun q hq => absurd hq (by omega))
def A0 : Nat → Nat → Int32 := uF (fun _ _ => 0) 0 3 9
theorem gl_wM {B n : Nat} {h : HT} : gl h n (ob 9 (mobj B n (fun _ => 0)) :: [ia 645 (upd (fun _ => 0) 3 9), ia 1290 (fun _ => 0), ia 20 (fun _ => 0), ia 200 (fun _ => 0), ia 20 (fun _ => 0), ia 20 (fun _ => 0), ia 20 (fun _ => 0), ia 20 (fun _ => 0), ia 20 (fun _ => 0), ia 20 (fun _ => 0), ia 20 (fun _ => 0), ia 20 (fun _ => 0), ia 20 (fun _ => 0), la 4096 (fun _ => 0), ia 20 (fun _ => 0), ia 20 (fun _ => 0), ia 20 (fun _ => 0), ia 400 (fun _ => 0)]) = wM B n A0 (fun _ => 0) (fun _ => 0) h := by
  funext k
  by_cases hk : k < n ∨ n + 19 ≤ k
  · rw [wM_n hk]
    unfold gl
    rw [if_neg (by simp <;> omega)]
  · obtain ⟨j, rfl⟩ : ∃ j, k = n + j := ⟨k - n, by omega⟩
    have hj : j = 0 ∨ j = 1 ∨ j = 2 ∨ j = 3 ∨ j = 4 ∨ j = 5 ∨ j = 6 ∨ j = 7 ∨ j = 8 ∨ j = 9 ∨ j = 10 ∨ j = 11 ∨ j = 12 ∨ j = 13 ∨ j = 14 ∨ j = 15 ∨ j = 16 ∨ j = 17 ∨ j = 18 := by omega
    rcases hj with rfl | rfl | rfl | rfl | rfl | rfl | rfl | rfl | rfl | rfl | rfl | rfl | rfl | rfl | rfl | rfl | rfl | rfl | rfl
    · rw [gl_at (i := 0) rfl]; exact wM_o.symm
    · rw [gl_at (i := 1) rfl]; exact (wM_a (B := B) (m := n) (A := A0) (Wy := fun _ => 0) (V := fun _ => 0) (h := h) (j := 0) (by decide)).symm
    · rw [gl_at (i := 2) rfl]; exact (wM_a (B := B) (m := n) (A := A0) (Wy := fun _ => 0) (V := fun _ => 0) (h := h) (j := 1) (by decide)).symm
    · rw [gl_at (i := 3) rfl]; exact (wM_a (B := B) (m := n) (A := A0) (Wy := fun _ => 0) (V := fun _ => 0) (h := h) (j := 2) (by decide)).symm
    · rw [gl_at (i := 4) rfl]; exact (wM_a (B := B) (m := n) (A := A0) (Wy := fun _ => 0) (V := fun _ => 0) (h := h) (j := 3) (by decide)).symm
    · rw [gl_at (i := 5) rfl]; exact (wM_a (B := B) (m := n) (A := A0) (Wy := fun _ => 0) (V := fun _ => 0) (h := h) (j := 4) (by decide)).symm
    · rw [gl_at (i := 6) rfl]; exact (wM_a (B := B) (m := n) (A := A0) (Wy := fun _ => 0) (V := fun _ => 0) (h := h) (j := 5) (by decide)).symm
    · rw [gl_at (i := 7) rfl]; exact (wM_a (B := B) (m := n) (A := A0) (Wy := fun _ => 0) (V := fun _ => 0) (h := h) (j := 6) (by decide)).symm
    · rw [gl_at (i := 8) rfl]; exact (wM_a (B := B) (m := n) (A := A0) (Wy := fun _ => 0) (V := fun _ => 0) (h := h) (j := 7) (by decide)).symm
    · rw [gl_at (i := 9) rfl]; exact (wM_a (B := B) (m := n) (A := A0) (Wy := fun _ => 0) (V := fun _ => 0) (h := h) (j := 8) (by decide)).symm
    · rw [gl_at (i := 10) rfl]; exact (wM_a (B := B) (m := n) (A := A0) (Wy := fun _ => 0) (V := fun _ => 0) (h := h) (j := 9) (by decide)).symm
    · rw [gl_at (i := 11) rfl]; exact (wM_a (B := B) (m := n) (A := A0) (Wy := fun _ => 0) (V := fun _ => 0) (h := h) (j := 10) (by decide)).symm
    · rw [gl_at (i := 12) rfl]; exact (wM_a (B := B) (m := n) (A := A0) (Wy := fun _ => 0) (V := fun _ => 0) (h := h) (j := 11) (by decide)).symm
    · rw [gl_at (i := 13) rfl]; exact (wM_a (B := B) (m := n) (A := A0) (Wy := fun _ => 0) (V := fun _ => 0) (h := h) (j := 12) (by decide)).symm
    · rw [gl_at (i := 14) rfl]; exact wM_w.symm
    · rw [gl_at (i := 15) rfl]; exact (wM_a (B := B) (m := n) (A := A0) (Wy := fun _ => 0) (V := fun _ => 0) (h := h) (j := 14) (by decide)).symm
    · rw [gl_at (i := 16) rfl]; exact (wM_a (B := B) (m := n) (A := A0) (Wy := fun _ => 0) (V := fun _ => 0) (h := h) (j := 15) (by decide)).symm
    · rw [gl_at (i := 17) rfl]; exact (wM_a (B := B) (m := n) (A := A0) (Wy := fun _ => 0) (V := fun _ => 0) (h := h) (j := 16) (by decide)).symm
    · rw [gl_at (i := 18) rfl]; exact (wM_a (B := B) (m := n) (A := A0) (Wy := fun _ => 0) (V := fun _ => 0) (h := h) (j := 17) (by decide)).symm
theorem MW.new {F : Nat → Nat → Int32} : MW 0 S0 F (A0 0) := by
  refine ⟨rfl, fun k k1 k4 => ?_, fun i hi => absurd hi (by omega), fun p i hp => absurd hp (by omega)⟩
  have : k = 1 ∨ k = 2 ∨ k = 3 ∨ k = 4 := by omega
  rcases this with rfl | rfl | rfl | rfl <;> rfl
theorem jj_n {X : State → Prop} {G : GC} {B : Nat} {y : MT} {pc : Nat} {lv : List (Option Value)} {st : List Value} {n n' : Nat} {h : HT} {kc ks : Nat} {post : Option Value → Nat → HT → Prop} (e : n = n') (K : JJ X G B y pc lv st n' h kc ks post) : JJ X G B y pc lv st n h kc ks post := e ▸ K
set_option maxHeartbeats 4000000 in
set_option maxRecDepth 100000 in
 theorem m_init {G : GC} {B n : Nat} {h : HT} {F : Nat → Nat → Int32} {pt C : Nat → Int32} : CtJ G B M9_init [.ref (B + n)] (n + 1) (gl h n [ob 9 [.null, .null, .int 0, .null, .int 0, .null, .int 0, .int 0, .int 0, .null, .null, .null, .null, .null, .null, .null, .null, .null, .null, .null, .int 0, .int 0, .null, .null, .null, .int 0]]) 18 6891 (fun r2 n2 h2 => r2 = none ∧ n2 = n + 19 ∧ ML B n 0 S0 F 0 pt 0 C (fun _ => none) h2 ∧ tk n h h2) := by
  unfold CtJ
  refine jj_lv (lv' := [some (.ref (B + n))]) rfl ?_
  refine jj_s (pc' := 1) rfl rfl ?_
  refine jj_oinit rfl tw_ol9 tw_oi tw_oc (by decide) (by decide) ?_
  refine jj_s (pc' := 5) rfl rfl ?_
  refine jj_s (pc' := 8) rfl rfl ?_
  refine jj_na 645 rfl rfl rfl rfl rfl rfl rfl rfl rfl (by decide) rfl rfl rfl ?_
  refine jj_n (n' := n + 2) rfl (jj_h (h' := gl h n (ob 9 [.ref (B + (n + 1)), .null, .int 0, .null, .int 0, .null, .int 0, .int 0, .int 0, .null, .null, .null, .null, .null, .null, .null, .null, .null, .null, .null, .int 0, .int 0, .null, .null, .null, .int 0] :: [ia 645 (fun _ => 0)])) rfl ?_)
  refine jj_s (pc' := 14) rfl rfl ?_
  refine jj_s (pc' := 17) rfl rfl ?_
  refine jj_na 1290 rfl rfl rfl rfl rfl rfl rfl rfl rfl (by decide) rfl rfl rfl ?_
  refine jj_n (n' := n + 3) rfl (jj_h (h' := gl h n (ob 9 [.ref (B + (n + 1)), .ref (B + (n + 2)), .int 0, .null, .int 0, .null, .int 0, .int 0, .int 0, .null, .null, .null, .null, .null, .null, .null, .null, .null, .null, .null, .int 0, .int 0, .null, .null, .null, .int 0] :: [ia 645 (fun _ => 0), ia 1290 (fun _ => 0)])) rfl ?_)
  refine jj_s (pc' := 23) rfl rfl ?_
  refine jj_s (pc' := 25) rfl rfl ?_
  refine jj_na 20 rfl rfl rfl rfl rfl rfl rfl rfl rfl (by decide) rfl rfl rfl ?_
  refine jj_n (n' := n + 4) rfl (jj_h (h' := gl h n (ob 9 [.ref (B + (n + 1)), .ref (B + (n + 2)), .int 0, .ref (B + (n + 3)), .int 0, .null, .int 0, .int 0, .int 0, .null, .null, .null, .null, .null, .null, .null, .null, .null, .null, .null, .int 0, .int 0, .null, .null, .null, .int 0] :: [ia 645 (fun _ => 0), ia 1290 (fun _ => 0), ia 20 (fun _ => 0)])) rfl ?_)
  refine jj_s (pc' := 31) rfl rfl ?_
  refine jj_s (pc' := 34) rfl rfl ?_
  refine jj_na 200 rfl rfl rfl rfl rfl rfl rfl rfl rfl (by decide) rfl rfl rfl ?_
  refine jj_n (n' := n + 5) rfl (jj_h (h' := gl h n (ob 9 [.ref (B + (n + 1)), .ref (B + (n + 2)), .int 0, .ref (B + (n + 3)), .int 0, .ref (B + (n + 4)), .int 0, .int 0, .int 0, .null, .null, .null, .null, .null, .null, .null, .null, .null, .null, .null, .int 0, .int 0, .null, .null, .null, .int 0] :: [ia 645 (fun _ => 0), ia 1290 (fun _ => 0), ia 20 (fun _ => 0), ia 200 (fun _ => 0)])) rfl ?_)
  refine jj_s (pc' := 40) rfl rfl ?_
  refine jj_s (pc' := 42) rfl rfl ?_
  refine jj_na 20 rfl rfl rfl rfl rfl rfl rfl rfl rfl (by decide) rfl rfl rfl ?_
  refine jj_n (n' := n + 6) rfl (jj_h (h' := gl h n (ob 9 [.ref (B + (n + 1)), .ref (B + (n + 2)), .int 0, .ref (B + (n + 3)), .int 0, .ref (B + (n + 4)), .int 0, .int 0, .int 0, .ref (B + (n + 5)), .null, .null, .null, .null, .null, .null, .null, .null, .null, .null, .int 0, .int 0, .null, .null, .null, .int 0] :: [ia 645 (fun _ => 0), ia 1290 (fun _ => 0), ia 20 (fun _ => 0), ia 200 (fun _ => 0), ia 20 (fun _ => 0)])) rfl ?_)
  refine jj_s (pc' := 48) rfl rfl ?_
  refine jj_s (pc' := 50) rfl rfl ?_
  refine jj_na 20 rfl rfl rfl rfl rfl rfl rfl rfl rfl (by decide) rfl rfl rfl ?_
  refine jj_n (n' := n + 7) rfl (jj_h (h' := gl h n (ob 9 [.ref (B + (n + 1)), .ref (B + (n + 2)), .int 0, .ref (B + (n + 3)), .int 0, .ref (B + (n + 4)), .int 0, .int 0, .int 0, .ref (B + (n + 5)), .ref (B + (n + 6)), .null, .null, .null, .null, .null, .null, .null, .null, .null, .int 0, .int 0, .null, .null, .null, .int 0] :: [ia 645 (fun _ => 0), ia 1290 (fun _ => 0), ia 20 (fun _ => 0), ia 200 (fun _ => 0), ia 20 (fun _ => 0), ia 20 (fun _ => 0)])) rfl ?_)
  refine jj_s (pc' := 56) rfl rfl ?_
  refine jj_s (pc' := 58) rfl rfl ?_
  refine jj_na 20 rfl rfl rfl rfl rfl rfl rfl rfl rfl (by decide) rfl rfl rfl ?_
  refine jj_n (n' := n + 8) rfl (jj_h (h' := gl h n (ob 9 [.ref (B + (n + 1)), .ref (B + (n + 2)), .int 0, .ref (B + (n + 3)), .int 0, .ref (B + (n + 4)), .int 0, .int 0, .int 0, .ref (B + (n + 5)), .ref (B + (n + 6)), .ref (B + (n + 7)), .null, .null, .null, .null, .null, .null, .null, .null, .int 0, .int 0, .null, .null, .null, .int 0] :: [ia 645 (fun _ => 0), ia 1290 (fun _ => 0), ia 20 (fun _ => 0), ia 200 (fun _ => 0), ia 20 (fun _ => 0), ia 20 (fun _ => 0), ia 20 (fun _ => 0)])) rfl ?_)
  refine jj_s (pc' := 64) rfl rfl ?_
  refine jj_s (pc' := 66) rfl rfl ?_
  refine jj_na 20 rfl rfl rfl rfl rfl rfl rfl rfl rfl (by decide) rfl rfl rfl ?_
  refine jj_n (n' := n + 9) rfl (jj_h (h' := gl h n (ob 9 [.ref (B + (n + 1)), .ref (B + (n + 2)), .int 0, .ref (B + (n + 3)), .int 0, .ref (B + (n + 4)), .int 0, .int 0, .int 0, .ref (B + (n + 5)), .ref (B + (n + 6)), .ref (B + (n + 7)), .ref (B + (n + 8)), .null, .null, .null, .null, .null, .null, .null, .int 0, .int 0, .null, .null, .null, .int 0] :: [ia 645 (fun _ => 0), ia 1290 (fun _ => 0), ia 20 (fun _ => 0), ia 200 (fun _ => 0), ia 20 (fun _ => 0), ia 20 (fun _ => 0), ia 20 (fun _ => 0), ia 20 (fun _ => 0)])) rfl ?_)
  refine jj_s (pc' := 72) rfl rfl ?_
  refine jj_s (pc' := 74) rfl rfl ?_
  refine jj_na 20 rfl rfl rfl rfl rfl rfl rfl rfl rfl (by decide) rfl rfl rfl ?_
  refine jj_n (n' := n + 10) rfl (jj_h (h' := gl h n (ob 9 [.ref (B + (n + 1)), .ref (B + (n + 2)), .int 0, .ref (B + (n + 3)), .int 0, .ref (B + (n + 4)), .int 0, .int 0, .int 0, .ref (B + (n + 5)), .ref (B + (n + 6)), .ref (B + (n + 7)), .ref (B + (n + 8)), .ref (B + (n + 9)), .null, .null, .null, .null, .null, .null, .int 0, .int 0, .null, .null, .null, .int 0] :: [ia 645 (fun _ => 0), ia 1290 (fun _ => 0), ia 20 (fun _ => 0), ia 200 (fun _ => 0), ia 20 (fun _ => 0), ia 20 (fun _ => 0), ia 20 (fun _ => 0), ia 20 (fun _ => 0), ia 20 (fun _ => 0)])) rfl ?_)
  refine jj_s (pc' := 80) rfl rfl ?_
  refine jj_s (pc' := 82) rfl rfl ?_
  refine jj_na 20 rfl rfl rfl rfl rfl rfl rfl rfl rfl (by decide) rfl rfl rfl ?_
  refine jj_n (n' := n + 11) rfl (jj_h (h' := gl h n (ob 9 [.ref (B + (n + 1)), .ref (B + (n + 2)), .int 0, .ref (B + (n + 3)), .int 0, .ref (B + (n + 4)), .int 0, .int 0, .int 0, .ref (B + (n + 5)), .ref (B + (n + 6)), .ref (B + (n + 7)), .ref (B + (n + 8)), .ref (B + (n + 9)), .ref (B + (n + 10)), .null, .null, .null, .null, .null, .int 0, .int 0, .null, .null, .null, .int 0] :: [ia 645 (fun _ => 0), ia 1290 (fun _ => 0), ia 20 (fun _ => 0), ia 200 (fun _ => 0), ia 20 (fun _ => 0), ia 20 (fun _ => 0), ia 20 (fun _ => 0), ia 20 (fun _ => 0), ia 20 (fun _ => 0), ia 20 (fun _ => 0)])) rfl ?_)
  refine jj_s (pc' := 88) rfl rfl ?_
  refine jj_s (pc' := 90) rfl rfl ?_
  refine jj_na 20 rfl rfl rfl rfl rfl rfl rfl rfl rfl (by decide) rfl rfl rfl ?_
  refine jj_n (n' := n + 12) rfl (jj_h (h' := gl h n (ob 9 [.ref (B + (n + 1)), .ref (B + (n + 2)), .int 0, .ref (B + (n + 3)), .int 0, .ref (B + (n + 4)), .int 0, .int 0, .int 0, .ref (B + (n + 5)), .ref (B + (n + 6)), .ref (B + (n + 7)), .ref (B + (n + 8)), .ref (B + (n + 9)), .ref (B + (n + 10)), .ref (B + (n + 11)), .null, .null, .null, .null, .int 0, .int 0, .null, .null, .null, .int 0] :: [ia 645 (fun _ => 0), ia 1290 (fun _ => 0), ia 20 (fun _ => 0), ia 200 (fun _ => 0), ia 20 (fun _ => 0), ia 20 (fun _ => 0), ia 20 (fun _ => 0), ia 20 (fun _ => 0), ia 20 (fun _ => 0), ia 20 (fun _ => 0), ia 20 (fun _ => 0)])) rfl ?_)
  refine jj_s (pc' := 96) rfl rfl ?_
  refine jj_s (pc' := 98) rfl rfl ?_
  refine jj_na 20 rfl rfl rfl rfl rfl rfl rfl rfl rfl (by decide) rfl rfl rfl ?_
  refine jj_n (n' := n + 13) rfl (jj_h (h' := gl h n (ob 9 [.ref (B + (n + 1)), .ref (B + (n + 2)), .int 0, .ref (B + (n + 3)), .int 0, .ref (B + (n + 4)), .int 0, .int 0, .int 0, .ref (B + (n + 5)), .ref (B + (n + 6)), .ref (B + (n + 7)), .ref (B + (n + 8)), .ref (B + (n + 9)), .ref (B + (n + 10)), .ref (B + (n + 11)), .ref (B + (n + 12)), .null, .null, .null, .int 0, .int 0, .null, .null, .null, .int 0] :: [ia 645 (fun _ => 0), ia 1290 (fun _ => 0), ia 20 (fun _ => 0), ia 200 (fun _ => 0), ia 20 (fun _ => 0), ia 20 (fun _ => 0), ia 20 (fun _ => 0), ia 20 (fun _ => 0), ia 20 (fun _ => 0), ia 20 (fun _ => 0), ia 20 (fun _ => 0), ia 20 (fun _ => 0)])) rfl ?_)
  refine jj_s (pc' := 104) rfl rfl ?_
  refine jj_s (pc' := 106) rfl rfl ?_
  refine jj_na 20 rfl rfl rfl rfl rfl rfl rfl rfl rfl (by decide) rfl rfl rfl ?_
  refine jj_n (n' := n + 14) rfl (jj_h (h' := gl h n (ob 9 [.ref (B + (n + 1)), .ref (B + (n + 2)), .int 0, .ref (B + (n + 3)), .int 0, .ref (B + (n + 4)), .int 0, .int 0, .int 0, .ref (B + (n + 5)), .ref (B + (n + 6)), .ref (B + (n + 7)), .ref (B + (n + 8)), .ref (B + (n + 9)), .ref (B + (n + 10)), .ref (B + (n + 11)), .ref (B + (n + 12)), .ref (B + (n + 13)), .null, .null, .int 0, .int 0, .null, .null, .null, .int 0] :: [ia 645 (fun _ => 0), ia 1290 (fun _ => 0), ia 20 (fun _ => 0), ia 200 (fun _ => 0), ia 20 (fun _ => 0), ia 20 (fun _ => 0), ia 20 (fun _ => 0), ia 20 (fun _ => 0), ia 20 (fun _ => 0), ia 20 (fun _ => 0), ia 20 (fun _ => 0), ia 20 (fun _ => 0), ia 20 (fun _ => 0)])) rfl ?_)
  refine jj_s (pc' := 112) rfl rfl ?_
  refine jj_s (pc' := 115) rfl rfl ?_
  refine jj_nl 4096 rfl rfl rfl rfl rfl rfl rfl rfl rfl (by decide) rfl rfl rfl ?_
  refine jj_n (n' := n + 15) rfl (jj_h (h' := gl h n (ob 9 [.ref (B + (n + 1)), .ref (B + (n + 2)), .int 0, .ref (B + (n + 3)), .int 0, .ref (B + (n + 4)), .int 0, .int 0, .int 0, .ref (B + (n + 5)), .ref (B + (n + 6)), .ref (B + (n + 7)), .ref (B + (n + 8)), .ref (B + (n + 9)), .ref (B + (n + 10)), .ref (B + (n + 11)), .ref (B + (n + 12)), .ref (B + (n + 13)), .ref (B + (n + 14)), .null, .int 0, .int 0, .null, .null, .null, .int 0] :: [ia 645 (fun _ => 0), ia 1290 (fun _ => 0), ia 20 (fun _ => 0), ia 200 (fun _ => 0), ia 20 (fun _ => 0), ia 20 (fun _ => 0), ia 20 (fun _ => 0), ia 20 (fun _ => 0), ia 20 (fun _ => 0), ia 20 (fun _ => 0), ia 20 (fun _ => 0), ia 20 (fun _ => 0), ia 20 (fun _ => 0), la 4096 (fun _ => 0)])) rfl ?_)
  refine jj_s (pc' := 121) rfl rfl ?_
  refine jj_s (pc' := 123) rfl rfl ?_
  refine jj_na 20 rfl rfl rfl rfl rfl rfl rfl rfl rfl (by decide) rfl rfl rfl ?_
  refine jj_n (n' := n + 16) rfl (jj_h (h' := gl h n (ob 9 [.ref (B + (n + 1)), .ref (B + (n + 2)), .int 0, .ref (B + (n + 3)), .int 0, .ref (B + (n + 4)), .int 0, .int 0, .int 0, .ref (B + (n + 5)), .ref (B + (n + 6)), .ref (B + (n + 7)), .ref (B + (n + 8)), .ref (B + (n + 9)), .ref (B + (n + 10)), .ref (B + (n + 11)), .ref (B + (n + 12)), .ref (B + (n + 13)), .ref (B + (n + 14)), .ref (B + (n + 15)), .int 0, .int 0, .null, .null, .null, .int 0] :: [ia 645 (fun _ => 0), ia 1290 (fun _ => 0), ia 20 (fun _ => 0), ia 200 (fun _ => 0), ia 20 (fun _ => 0), ia 20 (fun _ => 0), ia 20 (fun _ => 0), ia 20 (fun _ => 0), ia 20 (fun _ => 0), ia 20 (fun _ => 0), ia 20 (fun _ => 0), ia 20 (fun _ => 0), ia 20 (fun _ => 0), la 4096 (fun _ => 0), ia 20 (fun _ => 0)])) rfl ?_)
  refine jj_s (pc' := 129) rfl rfl ?_
  refine jj_s (pc' := 131) rfl rfl ?_
  refine jj_na 20 rfl rfl rfl rfl rfl rfl rfl rfl rfl (by decide) rfl rfl rfl ?_
  refine jj_n (n' := n + 17) rfl (jj_h (h' := gl h n (ob 9 [.ref (B + (n + 1)), .ref (B + (n + 2)), .int 0, .ref (B + (n + 3)), .int 0, .ref (B + (n + 4)), .int 0, .int 0, .int 0, .ref (B + (n + 5)), .ref (B + (n + 6)), .ref (B + (n + 7)), .ref (B + (n + 8)), .ref (B + (n + 9)), .ref (B + (n + 10)), .ref (B + (n + 11)), .ref (B + (n + 12)), .ref (B + (n + 13)), .ref (B + (n + 14)), .ref (B + (n + 15)), .int 0, .int 0, .ref (B + (n + 16)), .null, .null, .int 0] :: [ia 645 (fun _ => 0), ia 1290 (fun _ => 0), ia 20 (fun _ => 0), ia 200 (fun _ => 0), ia 20 (fun _ => 0), ia 20 (fun _ => 0), ia 20 (fun _ => 0), ia 20 (fun _ => 0), ia 20 (fun _ => 0), ia 20 (fun _ => 0), ia 20 (fun _ => 0), ia 20 (fun _ => 0), ia 20 (fun _ => 0), la 4096 (fun _ => 0), ia 20 (fun _ => 0), ia 20 (fun _ => 0)])) rfl ?_)
  refine jj_s (pc' := 137) rfl rfl ?_
  refine jj_s (pc' := 139) rfl rfl ?_
  refine jj_na 20 rfl rfl rfl rfl rfl rfl rfl rfl rfl (by decide) rfl rfl rfl ?_
  refine jj_n (n' := n + 18) rfl (jj_h (h' := gl h n (ob 9 [.ref (B + (n + 1)), .ref (B + (n + 2)), .int 0, .ref (B + (n + 3)), .int 0, .ref (B + (n + 4)), .int 0, .int 0, .int 0, .ref (B + (n + 5)), .ref (B + (n + 6)), .ref (B + (n + 7)), .ref (B + (n + 8)), .ref (B + (n + 9)), .ref (B + (n + 10)), .ref (B + (n + 11)), .ref (B + (n + 12)), .ref (B + (n + 13)), .ref (B + (n + 14)), .ref (B + (n + 15)), .int 0, .int 0, .ref (B + (n + 16)), .ref (B + (n + 17)), .null, .int 0] :: [ia 645 (fun _ => 0), ia 1290 (fun _ => 0), ia 20 (fun _ => 0), ia 200 (fun _ => 0), ia 20 (fun _ => 0), ia 20 (fun _ => 0), ia 20 (fun _ => 0), ia 20 (fun _ => 0), ia 20 (fun _ => 0), ia 20 (fun _ => 0), ia 20 (fun _ => 0), ia 20 (fun _ => 0), ia 20 (fun _ => 0), la 4096 (fun _ => 0), ia 20 (fun _ => 0), ia 20 (fun _ => 0), ia 20 (fun _ => 0)])) rfl ?_)
  refine jj_s (pc' := 145) rfl rfl ?_
  refine jj_s (pc' := 148) rfl rfl ?_
  refine jj_na 400 rfl rfl rfl rfl rfl rfl rfl rfl rfl (by decide) rfl rfl rfl ?_
  refine jj_n (n' := n + 19) rfl (jj_h (h' := gl h n (ob 9 [.ref (B + (n + 1)), .ref (B + (n + 2)), .int 0, .ref (B + (n + 3)), .int 0, .ref (B + (n + 4)), .int 0, .int 0, .int 0, .ref (B + (n + 5)), .ref (B + (n + 6)), .ref (B + (n + 7)), .ref (B + (n + 8)), .ref (B + (n + 9)), .ref (B + (n + 10)), .ref (B + (n + 11)), .ref (B + (n + 12)), .ref (B + (n + 13)), .ref (B + (n + 14)), .ref (B + (n + 15)), .int 0, .int 0, .ref (B + (n + 16)), .ref (B + (n + 17)), .ref (B + (n + 18)), .int 0] :: [ia 645 (fun _ => 0), ia 1290 (fun _ => 0), ia 20 (fun _ => 0), ia 200 (fun _ => 0), ia 20 (fun _ => 0), ia 20 (fun _ => 0), ia 20 (fun _ => 0), ia 20 (fun _ => 0), ia 20 (fun _ => 0), ia 20 (fun _ => 0), ia 20 (fun _ => 0), ia 20 (fun _ => 0), ia 20 (fun _ => 0), la 4096 (fun _ => 0), ia 20 (fun _ => 0), ia 20 (fun _ => 0), ia 20 (fun _ => 0), ia 400 (fun _ => 0)])) rfl ?_)
  refine jj_s (pc' := 154) rfl rfl ?_
  refine jj_g rfl rfl (gl_at (n := n) (i := 0) rfl) rfl ?_
  refine jj_s (pc' := 158) rfl rfl ?_
  refine jj_s (pc' := 160) rfl rfl ?_
  refine jj_iastN (j := 3) (a := n + 1) rfl (gl_at (n := n) (i := 1) rfl) (by decide) rfl ?_
  refine jj_h (gl_put (n := n) (i := 1) (by simp)) ?_
  refine jj_h (gl_wM (B := B) (n := n) (h := h)) ?_
  refine jj_vret rfl rfl ⟨rfl, rfl, MLa.fin ⟨MW.new, rfl, fun j hj => absurd hj (by omega), rfl, fun j hj => absurd hj (by omega), fun s hs => ?_⟩⟩
  exact ⟨b_0 _, fun N' S' F' e => by cases e⟩
