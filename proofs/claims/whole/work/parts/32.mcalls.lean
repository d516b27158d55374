/-! the reference's calls -/
theorem wM_wM {B m : Nat} {A A' : Nat → Nat → Int32} {Wy Wy' : Nat → Int64} {V V' : Nat → Int32} {h : HT} : wM B m A Wy V (wM B m A' Wy' V' h) = wM B m A Wy V h := by
  funext k
  by_cases hk : k < m ∨ m + 19 ≤ k
  · rw [wM_n hk, wM_n hk, wM_n hk]
  · unfold wM
    by_cases h1 : k = m
    · simp only [h1, if_true]
    · by_cases h2 : k = m + 14
      · rw [if_neg h1, if_pos h2, if_neg h1, if_pos h2]
      · rw [if_neg h1, if_neg h2, if_pos (by omega), if_neg h1, if_neg h2, if_pos (by omega)]
def SL (o : Option (Nat × (Nat → Int32) × (Nat → Nat → Int32))) (b : Bool) (w : Nat → Int32) : Prop := b = o.isSome ∧ ∀ N S F, o = some (N, S, F) → MW N S F w
def MLa (N : Nat) (S : Nat → Int32) (F : Nat → Nat → Int32) (L : Nat) (pt : Nat → Int32) (len : Nat) (C : Nat → Int32) (sv : Nat → Option (Nat × (Nat → Int32) × (Nat → Nat → Int32))) (A : Nat → Nat → Int32) (V : Nat → Int32) : Prop := MW N S F (A 0) ∧ V 4 = nI L ∧ (∀ j, j < L → A 2 j = pt j) ∧ V 6 = nI len ∧ (∀ j, j < len → A 3 j = C j) ∧ ∀ s, s < 2 → SL (sv s) (bt (V 2) s) (fun k => A 1 (645 * s + k))
def ML (B m N : Nat) (S : Nat → Int32) (F : Nat → Nat → Int32) (L : Nat) (pt : Nat → Int32) (len : Nat) (C : Nat → Int32) (sv : Nat → Option (Nat × (Nat → Int32) × (Nat → Nat → Int32))) (H : HT) : Prop := ∃ A Wy V, H = wM B m A Wy V H ∧ MLa N S F L pt len C sv A V
def tk (m : Nat) (h h2 : HT) : Prop := ∀ k, k < m ∨ m + 19 ≤ k → h2 k = h k
section
variable {B m N N' : Nat} {S S' : Nat → Int32} {F F' : Nat → Nat → Int32} {L : Nat} {pt : Nat → Int32} {len : Nat} {C : Nat → Int32} {sv : Nat → Option (Nat × (Nat → Int32) × (Nat → Nat → Int32))} {A A' : Nat → Nat → Int32} {Wy : Nat → Int64} {V V' : Nat → Int32} {h : HT}
theorem MLa.fin (ha : MLa N S F L pt len C sv A V) : ML B m N S F L pt len C sv (wM B m A Wy V h) ∧ tk m h (wM B m A Wy V h) := ⟨⟨A, Wy, V, wM_wM.symm, ha⟩, fun _ hk => wM_n hk⟩
theorem MLa.w (ha : MLa N S F L pt len C sv A V) (hm : MW N' S' F' (A' 0)) (hA : ∀ j, j < 4 → j ≠ 0 → A' j = A j) (h2 : V' 2 = V 2) (h4 : V' 4 = V 4) (h6 : V' 6 = V 6) : MLa N' S' F' L pt len C sv A' V' := by
  obtain ⟨a0, a1, a2, a3, a4, a5⟩ := ha
  refine ⟨hm, h4.trans a1, fun j hj => by rw [hA 2 (by omega) (by omega)]; exact a2 j hj, h6.trans a3, fun j hj => by rw [hA 3 (by omega) (by omega)]; exact a4 j hj, fun s hs => ?_⟩
  rw [h2, hA 1 (by omega) (by omega)]
  exact a5 s hs
end
set_option maxHeartbeats 4000000 in
set_option maxRecDepth 100000 in
 theorem m_items {G : GC} {B n m N : Nat} {S : Nat → Int32} {F : Nat → Nat → Int32} {L : Nat} {pt : Nat → Int32} {len : Nat} {C : Nat → Int32} {sv : Nat → Option (Nat × (Nat → Int32) × (Nat → Nat → Int32))} {h : HT} (hN : N ≤ 20) (hM : ML B m N S F L pt len C sv h) : CtJ G B M9_items [.ref (B + m)] n h 0 0 (fun r2 n2 h2 => r2 = some (.int (nI N)) ∧ n2 = n ∧ ML B m N S F L pt len C sv h2 ∧ tk m h h2) := by
  obtain ⟨A, Wy, V, hh, ha⟩ := hM
  have hw0 := ha.1.1
  have fin0 : ML B m N S F L pt len C sv (wM B m A Wy V h) ∧ tk m h (wM B m A Wy V h) := MLa.fin ha
  unfold CtJ
  refine jj_lv (lv' := [some (.ref (B + m))]) rfl ?_
  refine jj_h hh ?_
  refine jj_s (pc' := 1) rfl rfl ?_
  refine jj_g rfl rfl wM_o rfl ?_
  refine jj_s (pc' := 5) rfl rfl ?_
  refine jj_m0 hw0 rfl ?_
  exact jj_iret rfl rfl ⟨rfl, rfl, fin0⟩
set_option maxHeartbeats 4000000 in
set_option maxRecDepth 100000 in
 theorem m_time {G : GC} {B n m N : Nat} {S : Nat → Int32} {F : Nat → Nat → Int32} {L : Nat} {pt : Nat → Int32} {len : Nat} {C : Nat → Int32} {sv : Nat → Option (Nat × (Nat → Int32) × (Nat → Nat → Int32))} {h : HT} (hN : N ≤ 20) (hM : ML B m N S F L pt len C sv h) : CtJ G B M9_time [.ref (B + m)] n h 0 0 (fun r2 n2 h2 => r2 = some (.int (S 1)) ∧ n2 = n ∧ ML B m N S F L pt len C sv h2 ∧ tk m h h2) := by
  obtain ⟨A, Wy, V, hh, ha⟩ := hM
  have hw0 := ha.1.1
  have fin0 : ML B m N S F L pt len C sv (wM B m A Wy V h) ∧ tk m h (wM B m A Wy V h) := MLa.fin ha
  unfold CtJ
  refine jj_lv (lv' := [some (.ref (B + m))]) rfl ?_
  refine jj_h hh ?_
  refine jj_s (pc' := 1) rfl rfl ?_
  refine jj_g rfl rfl wM_o rfl ?_
  refine jj_s (pc' := 5) rfl rfl ?_
  refine jj_mld (i := 1) 645 rfl rfl (by decide) (by decide) ?_
  exact jj_iret rfl rfl ⟨by rw [ha.1.2.1 1 (by omega) (by omega)], rfl, fin0⟩
set_option maxHeartbeats 4000000 in
set_option maxRecDepth 100000 in
 theorem m_state {G : GC} {B n m N : Nat} {S : Nat → Int32} {F : Nat → Nat → Int32} {L : Nat} {pt : Nat → Int32} {len : Nat} {C : Nat → Int32} {sv : Nat → Option (Nat × (Nat → Int32) × (Nat → Nat → Int32))} {h : HT} (hN : N ≤ 20) (hM : ML B m N S F L pt len C sv h) (x : Int32) : CtJ G B M9_state [.ref (B + m), .int x] n h 0 0 (fun r2 n2 h2 => r2 = some (.int (zRow N (F 5) x)) ∧ n2 = n ∧ ML B m N S F L pt len C sv h2 ∧ tk m h h2) := by
  obtain ⟨A, Wy, V, hh, ha⟩ := hM
  have hw0 := ha.1.1
  have fin0 : ML B m N S F L pt len C sv (wM B m A Wy V h) ∧ tk m h (wM B m A Wy V h) := MLa.fin ha
  unfold CtJ
  refine jj_lv (lv' := [some (.ref (B + m)), some (.int x)]) rfl ?_
  refine jj_h hh ?_
  refine jj_s (pc' := 1) rfl rfl ?_
  refine jj_s (pc' := 2) rfl rfl ?_
  refine jj_v1 rfl rfl rfl wM_o rfl rfl (c9_isItem hN hw0 _) ?_
  refine jj_zT 18 rfl rfl (fun c1 => ?_) (fun c1 => ?_)
  · refine jj_s (pc' := 19) rfl rfl ?_
    exact jj_iret rfl rfl ⟨by rw [zRow, if_neg (by rw [c1]; decide)]; rfl, rfl, fin0⟩
  · obtain ⟨i, hi, rfl⟩ := isN_of hN c1
    refine jj_s (pc' := 9) rfl rfl ?_
    refine jj_s (pc' := 10) rfl rfl ?_
    refine jj_s (pc' := 12) rfl rfl ?_
    refine jj_v2 rfl rfl rfl wM_o rfl rfl (c9_of (a := 8) (by omega) (by decide)) ?_
    refine jj_s (pc' := 19) rfl rfl ?_
    exact jj_iret rfl rfl ⟨by rw [zRow, if_pos c1, ix_nI (by omega), (ha.1.2.2.1 i hi).2.2.1], rfl, fin0⟩
set_option maxHeartbeats 4000000 in
set_option maxRecDepth 100000 in
 theorem m_receipt {G : GC} {B n m N : Nat} {S : Nat → Int32} {F : Nat → Nat → Int32} {L : Nat} {pt : Nat → Int32} {len : Nat} {C : Nat → Int32} {sv : Nat → Option (Nat × (Nat → Int32) × (Nat → Nat → Int32))} {h : HT} (hN : N ≤ 20) (hM : ML B m N S F L pt len C sv h) (x : Int32) : CtJ G B M9_receipt [.ref (B + m), .int x] n h 0 0 (fun r2 n2 h2 => r2 = some (.int (zRow N (F 10) x)) ∧ n2 = n ∧ ML B m N S F L pt len C sv h2 ∧ tk m h h2) := by
  obtain ⟨A, Wy, V, hh, ha⟩ := hM
  have hw0 := ha.1.1
  have fin0 : ML B m N S F L pt len C sv (wM B m A Wy V h) ∧ tk m h (wM B m A Wy V h) := MLa.fin ha
  unfold CtJ
  refine jj_lv (lv' := [some (.ref (B + m)), some (.int x)]) rfl ?_
  refine jj_h hh ?_
  refine jj_s (pc' := 1) rfl rfl ?_
  refine jj_s (pc' := 2) rfl rfl ?_
  refine jj_v1 rfl rfl rfl wM_o rfl rfl (c9_isItem hN hw0 _) ?_
  refine jj_zT 18 rfl rfl (fun c1 => ?_) (fun c1 => ?_)
  · refine jj_s (pc' := 19) rfl rfl ?_
    exact jj_iret rfl rfl ⟨by rw [zRow, if_neg (by rw [c1]; decide)]; rfl, rfl, fin0⟩
  · obtain ⟨i, hi, rfl⟩ := isN_of hN c1
    refine jj_s (pc' := 9) rfl rfl ?_
    refine jj_s (pc' := 10) rfl rfl ?_
    refine jj_s (pc' := 12) rfl rfl ?_
    refine jj_v2 rfl rfl rfl wM_o rfl rfl (c9_of (a := 9) (by omega) (by decide)) ?_
    refine jj_s (pc' := 19) rfl rfl ?_
    exact jj_iret rfl rfl ⟨by rw [zRow, if_pos c1, ix_nI (by omega), (ha.1.2.2.1 i hi).2.2.2.1], rfl, fin0⟩
set_option maxHeartbeats 4000000 in
set_option maxRecDepth 100000 in
 theorem m_witness {G : GC} {B n m N : Nat} {S : Nat → Int32} {F : Nat → Nat → Int32} {L : Nat} {pt : Nat → Int32} {len : Nat} {C : Nat → Int32} {sv : Nat → Option (Nat × (Nat → Int32) × (Nat → Nat → Int32))} {h : HT} (hN : N ≤ 20) (hM : ML B m N S F L pt len C sv h) (hL : L ≤ 20) (x : Int32) : CtJ G B M9_witness [.ref (B + m), .int x] n h 0 0 (fun r2 n2 h2 => r2 = some (.int (zWit L pt x)) ∧ n2 = n ∧ ML B m N S F L pt len C sv h2 ∧ tk m h h2) := by
  obtain ⟨A, Wy, V, hh, ha⟩ := hM
  have hw0 := ha.1.1
  have fin0 : ML B m N S F L pt len C sv (wM B m A Wy V h) ∧ tk m h (wM B m A Wy V h) := MLa.fin ha
  unfold CtJ
  refine jj_lv (lv' := [some (.ref (B + m)), some (.int x)]) rfl ?_
  refine jj_h hh ?_
  refine jj_s (pc' := 1) rfl rfl ?_
  refine jj_if_ge 7 rfl rfl (fun c1 => ?_) (fun c1 => ?_)
  · have c1 : ¬ x < 0 := Int32.not_lt.mpr c1
    refine jj_s (pc' := 8) rfl rfl ?_
    refine jj_s (pc' := 9) rfl rfl ?_
    refine jj_g rfl rfl wM_o rfl ?_
    rw [ha.2.1]
    refine jj_icmp_ge 24 rfl rfl (fun c2 => ?_) (fun c2 => ?_)
    · refine jj_s (pc' := 26) rfl rfl ?_
      exact jj_iret rfl rfl ⟨by rw [zWit, if_neg c1, if_neg (Int32.not_lt.mpr c2)]; rfl, rfl, fin0⟩
    · have c2 := Int32.not_le.mp c2
      obtain ⟨i, hi, rfl⟩ := nI_of c1
      have hiL := (nI_ltI (a := i) (b := L) (by omega) (by omega)).mp c2
      refine jj_s (pc' := 16) rfl rfl ?_
      refine jj_g rfl rfl wM_o rfl ?_
      refine jj_s (pc' := 20) rfl rfl ?_
      refine jj_mld 20 rfl rfl (by decide) (by first | assumption | omega) ?_
      refine jj_s (pc' := 26) rfl rfl ?_
      exact jj_iret rfl rfl ⟨by rw [zWit, if_neg c1, if_pos c2, ix_nI (by omega), ha.2.2.1 i hiL], rfl, fin0⟩
  · have c1 := Int32.not_le.mp c1
    refine jj_s (pc' := 6) rfl rfl ?_
    exact jj_iret rfl rfl ⟨by rw [zWit, if_pos c1]; rfl, rfl, fin0⟩
theorem MW.sc {N : Nat} {S : Nat → Int32} {F : Nat → Nat → Int32} {w : Nat → Int32} (hm : MW N S F w) {k : Nat} (h1 : 1 ≤ k) (h4 : k ≤ 4) (x : Int32) : MW N (upd S k x) F (upd w k x) := by
  obtain ⟨m0, m1, m2, m3⟩ := hm
  refine ⟨by rw [pk_un (by omega)]; exact m0, fun q q1 q4 => ?_, fun i hi => (m2 i hi).cong (fun a ha => pk_un (by omega)) (fun a => rfl), fun p i hp hi => by show upd w k x _ = _; rw [pk_un (by omega)]; exact m3 p i hp hi⟩
  by_cases e : q = k
  · subst e; rw [pk_us, pk_us]
  · rw [pk_un e, pk_un e]; exact m1 q q1 q4
set_option maxHeartbeats 4000000 in
set_option maxRecDepth 100000 in
 theorem m_setPolicy {G : GC} {B n m N : Nat} {S : Nat → Int32} {F : Nat → Nat → Int32} {L : Nat} {pt : Nat → Int32} {len : Nat} {C : Nat → Int32} {sv : Nat → Option (Nat × (Nat → Int32) × (Nat → Nat → Int32))} {h : HT} (hN : N ≤ 20) (hM : ML B m N S F L pt len C sv h) (x : Int32) : CtJ G B M9_setPolicy [.ref (B + m), .int x] n h 0 0 (fun r2 n2 h2 => r2 = some (.int ((zPol S x).1)) ∧ n2 = n ∧ ML B m N (zPol S x).2 F L pt len C sv h2 ∧ tk m h h2) := by
  obtain ⟨A, Wy, V, hh, ha⟩ := hM
  have hw0 := ha.1.1
  have fin0 : ML B m N S F L pt len C sv (wM B m A Wy V h) ∧ tk m h (wM B m A Wy V h) := MLa.fin ha
  unfold CtJ
  refine jj_lv (lv' := [some (.ref (B + m)), some (.int x), none]) rfl ?_
  refine jj_h hh ?_
  refine jj_s (pc' := 1) rfl rfl ?_
  refine jj_s (pc' := 2) rfl rfl ?_
  refine jj_s (pc' := 3) rfl rfl ?_
  refine jj_t3 rfl rfl rfl rfl rfl (c9_isIn x 0 2) ?_
  refine jj_zF 12 rfl rfl (fun c1 => ?_) (fun c1 => ?_)
  · refine jj_s (pc' := 13) rfl rfl ?_
    refine jj_g rfl rfl wM_o rfl ?_
    refine jj_s (pc' := 17) rfl rfl ?_
    refine jj_mld (i := 2) 645 rfl rfl (by decide) (by decide) ?_
    refine jj_s (pc' := 19) rfl rfl ?_
    refine jj_s (pc' := 20) rfl rfl ?_
    refine jj_g rfl rfl wM_o rfl ?_
    refine jj_s (pc' := 24) rfl rfl ?_
    refine jj_s (pc' := 25) rfl rfl ?_
    refine jj_mst (i := 2) 645 rfl rfl (by decide) (by decide) ?_
    refine jj_s (pc' := 27) rfl rfl ?_
    have e : zPol S x = (S 2, upd S 2 x) := by rw [zPol, if_pos c1]
    rw [e]
    refine jj_iret rfl rfl ⟨by rw [ha.1.2.1 2 (by omega) (by omega)], rfl, MLa.fin (ha.w ?_ (fun j _ h0 => uF_j _ _ _ _ h0) rfl rfl rfl)⟩
    rw [uF_same]
    exact ha.1.sc (by omega) (by omega) x
  · refine jj_s (pc' := 11) rfl rfl ?_
    have e : zPol S x = (-2, S) := by rw [zPol, if_neg (by rw [c1]; decide)]
    rw [e]
    exact jj_iret rfl rfl ⟨rfl, rfl, fin0⟩
set_option maxHeartbeats 4000000 in
set_option maxRecDepth 100000 in
 theorem m_setGroupLimit {G : GC} {B n m N : Nat} {S : Nat → Int32} {F : Nat → Nat → Int32} {L : Nat} {pt : Nat → Int32} {len : Nat} {C : Nat → Int32} {sv : Nat → Option (Nat × (Nat → Int32) × (Nat → Nat → Int32))} {h : HT} (hN : N ≤ 20) (hM : ML B m N S F L pt len C sv h) (x : Int32) : CtJ G B M9_setGroupLimit [.ref (B + m), .int x] n h 0 0 (fun r2 n2 h2 => r2 = some (.int ((zLim S x).1)) ∧ n2 = n ∧ ML B m N (zLim S x).2 F L pt len C sv h2 ∧ tk m h h2) := by
  obtain ⟨A, Wy, V, hh, ha⟩ := hM
  have hw0 := ha.1.1
  have fin0 : ML B m N S F L pt len C sv (wM B m A Wy V h) ∧ tk m h (wM B m A Wy V h) := MLa.fin ha
  unfold CtJ
  refine jj_lv (lv' := [some (.ref (B + m)), some (.int x), none]) rfl ?_
  refine jj_h hh ?_
  refine jj_s (pc' := 1) rfl rfl ?_
  refine jj_s (pc' := 2) rfl rfl ?_
  refine jj_s (pc' := 4) rfl rfl ?_
  refine jj_t3 rfl rfl rfl rfl rfl (c9_isIn x 1 9) ?_
  refine jj_zF 13 rfl rfl (fun c1 => ?_) (fun c1 => ?_)
  · refine jj_s (pc' := 14) rfl rfl ?_
    refine jj_g rfl rfl wM_o rfl ?_
    refine jj_s (pc' := 18) rfl rfl ?_
    refine jj_mld (i := 3) 645 rfl rfl (by decide) (by decide) ?_
    refine jj_s (pc' := 20) rfl rfl ?_
    refine jj_s (pc' := 21) rfl rfl ?_
    refine jj_g rfl rfl wM_o rfl ?_
    refine jj_s (pc' := 25) rfl rfl ?_
    refine jj_s (pc' := 26) rfl rfl ?_
    refine jj_mst (i := 3) 645 rfl rfl (by decide) (by decide) ?_
    refine jj_s (pc' := 28) rfl rfl ?_
    have e : zLim S x = (S 3, upd S 3 x) := by rw [zLim, if_pos c1]
    rw [e]
    refine jj_iret rfl rfl ⟨by rw [ha.1.2.1 3 (by omega) (by omega)], rfl, MLa.fin (ha.w ?_ (fun j _ h0 => uF_j _ _ _ _ h0) rfl rfl rfl)⟩
    rw [uF_same]
    exact ha.1.sc (by omega) (by omega) x
  · refine jj_s (pc' := 12) rfl rfl ?_
    have e : zLim S x = (-2, S) := by rw [zLim, if_neg (by rw [c1]; decide)]
    rw [e]
    exact jj_iret rfl rfl ⟨rfl, rfl, fin0⟩
theorem MW.none0 {N : Nat} {S : Nat → Int32} {F : Nat → Nat → Int32} {w : Nat → Int32} (hm : MW N S F w) : MW 0 S F (upd w 0 0) := ⟨pk_us, fun k h1 h4 => by rw [pk_un (by omega)]; exact hm.2.1 k h1 h4, fun i hi => absurd hi (by omega), fun p i hp => absurd hp (by omega)⟩
set_option maxHeartbeats 4000000 in
set_option maxRecDepth 100000 in
 theorem m_clear {G : GC} {B n m N : Nat} {S : Nat → Int32} {F : Nat → Nat → Int32} {L : Nat} {pt : Nat → Int32} {len : Nat} {C : Nat → Int32} {sv : Nat → Option (Nat × (Nat → Int32) × (Nat → Nat → Int32))} {h : HT} (hN : N ≤ 20) (hM : ML B m N S F L pt len C sv h) : CtJ G B M9_clear [.ref (B + m)] n h 0 0 (fun r2 n2 h2 => r2 = some (.int (nI N)) ∧ n2 = n ∧ ML B m 0 S F 0 pt len C sv h2 ∧ tk m h h2) := by
  obtain ⟨A, Wy, V, hh, ha⟩ := hM
  have hw0 := ha.1.1
  have fin0 : ML B m N S F L pt len C sv (wM B m A Wy V h) ∧ tk m h (wM B m A Wy V h) := MLa.fin ha
  unfold CtJ
  refine jj_lv (lv' := [some (.ref (B + m)), none]) rfl ?_
  refine jj_h hh ?_
  refine jj_s (pc' := 1) rfl rfl ?_
  refine jj_g rfl rfl wM_o rfl ?_
  refine jj_s (pc' := 5) rfl rfl ?_
  refine jj_m0 hw0 rfl ?_
  refine jj_s (pc' := 7) rfl rfl ?_
  refine jj_s (pc' := 8) rfl rfl ?_
  refine jj_g rfl rfl wM_o rfl ?_
  refine jj_s (pc' := 12) rfl rfl ?_
  refine jj_s (pc' := 13) rfl rfl ?_
  refine jj_mst (i := 0) 645 rfl rfl (by decide) (by decide) ?_
  refine jj_s (pc' := 15) rfl rfl ?_
  refine jj_s (pc' := 16) rfl rfl ?_
  refine jj_mpt rfl rfl rfl rfl rfl rfl ?_
  refine jj_s (pc' := 20) rfl rfl ?_
  refine jj_iret rfl rfl ⟨rfl, rfl, MLa.fin ?_⟩
  have := ha.w (A' := uF A 0 0 0) (V' := V) (by rw [uF_same]; exact ha.1.none0) (fun j _ h0 => uF_j _ _ _ _ h0) rfl rfl rfl
  obtain ⟨b0, b1, b2, b3, b4, b5⟩ := this
  exact ⟨b0, rfl, fun j hj => absurd hj (by omega), b3, b4, b5⟩
theorem MW.f0 {N : Nat} {S : Nat → Int32} {F : Nat → Nat → Int32} {w : Nat → Int32} {i : Nat} (hm : MW N S F w) (hN : N ≤ 20) (hi : i < N) (a : Nat) (ha : a < 5) (x : Int32) : MW N S (uF F a i x) (upd w (5 + 12 * i + a) x) := by
  refine hm.row (i := i) (by omega) (fun k hk => pk_un (by omega)) (fun b j hj => uF_i _ _ _ _ hj _) (by rw [uF_j _ _ _ _ (by omega)]) (by rw [uF_j _ _ _ _ (by omega)]) ?_
  obtain ⟨g1, g2, g3, g4, g5, g6, g7⟩ := hm.2.2.1 i hi
  have eF : ∀ b, 5 ≤ b → uF F a i x b = F b := fun b hb => uF_j _ _ _ _ (by omega)
  have ew : ∀ b, 5 ≤ b → ofW (upd w (5 + 12 * i + a) x) i b = ofW w i b := fun b hb => pk_un (by omega)
  refine ⟨fun b hb => ?_, by rw [ew 5 (by omega), eF 9 (by omega)]; exact g2, by rw [ew 8 (by omega), eF 5 (by omega)]; exact g3, by rw [ew 9 (by omega), eF 10 (by omega)]; exact g4, fun e => ?_, fun e => ?_, by rw [eF 5 (by omega)]; exact g7⟩
  · by_cases e : b = a
    · subst e; rw [uF_s]; exact pk_us
    · rw [uF_j _ _ _ _ e]; show upd w _ x _ = _; rw [pk_un (by omega)]; exact g1 b hb
  · rw [eF 5 (by omega)] at e
    rw [ew 6 (by omega), ew 10 (by omega), eF 6 (by omega), eF 7 (by omega)]; exact g5 e
  · rw [eF 5 (by omega)] at e
    rw [ew 7 (by omega), eF 8 (by omega)]; exact g6 e
set_option maxHeartbeats 4000000 in
set_option maxRecDepth 100000 in
 theorem m_setPriority {G : GC} {B n m N : Nat} {S : Nat → Int32} {F : Nat → Nat → Int32} {L : Nat} {pt : Nat → Int32} {len : Nat} {C : Nat → Int32} {sv : Nat → Option (Nat × (Nat → Int32) × (Nat → Nat → Int32))} {h : HT} (hN : N ≤ 20) (hM : ML B m N S F L pt len C sv h) (x p : Int32) : CtJ G B M9_setPriority [.ref (B + m), .int x, .int p] n h 0 0 (fun r2 n2 h2 => r2 = some (.int ((zPri N F x p).1)) ∧ n2 = n ∧ ML B m N S (zPri N F x p).2 L pt len C sv h2 ∧ tk m h h2) := by
  obtain ⟨A, Wy, V, hh, ha⟩ := hM
  have hw0 := ha.1.1
  have fin0 : ML B m N S F L pt len C sv (wM B m A Wy V h) ∧ tk m h (wM B m A Wy V h) := MLa.fin ha
  unfold CtJ
  refine jj_lv (lv' := [some (.ref (B + m)), some (.int x), some (.int p), none]) rfl ?_
  refine jj_h hh ?_
  refine jj_s (pc' := 1) rfl rfl ?_
  refine jj_s (pc' := 2) rfl rfl ?_
  refine jj_v1 rfl rfl rfl wM_o rfl rfl (c9_isItem hN hw0 _) ?_
  refine jj_zF 10 rfl rfl (fun c1 => ?_) (fun c1 => ?_)
  · obtain ⟨i, hi, rfl⟩ := isN_of hN c1
    refine jj_s (pc' := 11) rfl rfl ?_
    refine jj_s (pc' := 12) rfl rfl ?_
    refine jj_s (pc' := 14) rfl rfl ?_
    refine jj_t3 rfl rfl rfl rfl rfl (c9_isIn p 0 9) ?_
    refine jj_zF 23 rfl rfl (fun c2 => ?_) (fun c2 => ?_)
    · refine jj_s (pc' := 24) rfl rfl ?_
      refine jj_s (pc' := 25) rfl rfl ?_
      refine jj_v1 rfl rfl rfl wM_o rfl rfl (c9_hasEnded (by omega)) ?_
      rw [(ha.1.2.2.1 i hi).2.2.1]
      refine jj_zT 34 rfl rfl (fun c3 => ?_) (fun c3 => ?_)
      · have e : zPri N F (nI i) p = (F 0 i, uF F 0 i p) := by rw [zPri, if_pos c1, if_pos c2, ix_nI (by omega), if_neg (of_decide_eq_false c3)]
        rw [e]
        refine jj_s (pc' := 35) rfl rfl ?_
        refine jj_s (pc' := 36) rfl rfl ?_
        refine jj_s (pc' := 37) rfl rfl ?_
        refine jj_v2 rfl rfl rfl wM_o rfl rfl (c9_of (a := 0) (by omega) (by decide)) ?_
        rw [(ha.1.2.2.1 i hi).1 0 (by omega)]
        refine jj_s (pc' := 41) rfl rfl ?_
        refine jj_s (pc' := 42) rfl rfl ?_
        refine jj_s (pc' := 43) rfl rfl ?_
        refine jj_s (pc' := 44) rfl rfl ?_
        refine jj_s (pc' := 45) rfl rfl ?_
        refine jj_w3 rfl rfl rfl wM_o rfl rfl (c9_set (a := 0) (by omega) (by decide) _) ?_
        refine jj_s (pc' := 49) rfl rfl ?_
        refine jj_iret rfl rfl ⟨rfl, rfl, MLa.fin (ha.w ?_ (fun j _ h0 => uF_j _ _ _ _ h0) rfl rfl rfl)⟩
        rw [uF_same]
        exact ha.1.f0 hN hi 0 (by omega) p
      · have e : zPri N F (nI i) p = (-4, F) := by rw [zPri, if_pos c1, if_pos c2, ix_nI (by omega), if_pos (of_decide_eq_true c3)]
        rw [e]
        refine jj_s (pc' := 33) rfl rfl ?_
        exact jj_iret rfl rfl ⟨rfl, rfl, fin0⟩
    · have e : zPri N F (nI i) p = (-2, F) := by rw [zPri, if_pos c1, if_neg (by rw [c2]; decide)]
      rw [e]
      refine jj_s (pc' := 22) rfl rfl ?_
      exact jj_iret rfl rfl ⟨rfl, rfl, fin0⟩
  · have e : zPri N F x p = (-1, F) := by rw [zPri, if_neg (by rw [c1]; decide)]
    rw [e]
    refine jj_s (pc' := 9) rfl rfl ?_
    exact jj_iret rfl rfl ⟨rfl, rfl, fin0⟩
set_option maxHeartbeats 4000000 in
set_option maxRecDepth 100000 in
 theorem m_edge {G : GC} {B n m N : Nat} {S : Nat → Int32} {F : Nat → Nat → Int32} {L : Nat} {pt : Nat → Int32} {len : Nat} {C : Nat → Int32} {sv : Nat → Option (Nat × (Nat → Int32) × (Nat → Nat → Int32))} {h : HT} (hN : N ≤ 20) (hM : ML B m N S F L pt len C sv h) (x y : Int32) : CtJ G B M9_edge [.ref (B + m), .int x, .int y] n h 0 0 (fun r2 n2 h2 => r2 = some (.int (zEdg N F x y)) ∧ n2 = n ∧ ML B m N S F L pt len C sv h2 ∧ tk m h h2) := by
  obtain ⟨A, Wy, V, hh, ha⟩ := hM
  have hw0 := ha.1.1
  have fin0 : ML B m N S F L pt len C sv (wM B m A Wy V h) ∧ tk m h (wM B m A Wy V h) := MLa.fin ha
  unfold CtJ
  refine jj_lv (lv' := [some (.ref (B + m)), some (.int x), some (.int y)]) rfl ?_
  refine jj_h hh ?_
  have bad : (isN N x && isN N y) = false → JJ X0 G B M9_edge 16 [some (.ref (B + m)), some (.int x), some (.int y)] [] n (wM B m A Wy V h) 0 0 (fun r2 n2 h2 => r2 = some (.int (zEdg N F x y)) ∧ n2 = n ∧ ML B m N S F L pt len C sv h2 ∧ tk m h h2) := by
    intro hb
    refine jj_s (pc' := 17) rfl rfl ?_
    exact jj_iret rfl rfl ⟨by rw [zEdg, if_neg (by rw [hb]; decide)]; rfl, rfl, fin0⟩
  refine jj_s (pc' := 1) rfl rfl ?_
  refine jj_s (pc' := 2) rfl rfl ?_
  refine jj_v1 rfl rfl rfl wM_o rfl rfl (c9_isItem hN hw0 _) ?_
  refine jj_zT 16 rfl rfl (fun c1 => bad (by rw [c1]; rfl)) (fun c1 => ?_)
  refine jj_s (pc' := 9) rfl rfl ?_
  refine jj_s (pc' := 10) rfl rfl ?_
  refine jj_v1 rfl rfl rfl wM_o rfl rfl (c9_isItem hN hw0 _) ?_
  refine jj_zF 18 rfl rfl (fun c2 => ?_) (fun c2 => bad (by rw [c2]; simp))
  have ok : (isN N x && isN N y) = true := by rw [c1, c2]; rfl
  obtain ⟨i, hi, rfl⟩ := isN_of hN c1
  obtain ⟨j, hj, rfl⟩ := isN_of hN c2
  have hk := ha.1.2.2.2 i j hi hj
  refine jj_s (pc' := 19) rfl rfl ?_
  refine jj_s (pc' := 20) rfl rfl ?_
  refine jj_s (pc' := 21) rfl rfl ?_
  refine jj_v2 rfl rfl rfl wM_o rfl rfl (c9_kindOf (by omega) (by omega)) ?_
  rw [hk]
  refine jj_if_lt 36 rfl rfl (fun c3 => ?_) (fun c3 => ?_)
  · refine jj_s (pc' := 38) rfl rfl ?_
    refine jj_iret rfl rfl ⟨?_, rfl, fin0⟩
    have c3 := (kd_n F i j).mp c3
    rw [bt_prd, Bool.or_eq_false_iff] at c3
    rw [zEdg, if_pos ok, ix_nI (by omega), ix_nI (by omega), if_neg (by rw [c3.1]; decide), if_neg (by rw [c3.2]; decide)]
    rfl
  · refine jj_s (pc' := 28) rfl rfl ?_
    refine jj_s (pc' := 29) rfl rfl ?_
    refine jj_s (pc' := 30) rfl rfl ?_
    refine jj_v2 rfl rfl rfl wM_o rfl rfl (c9_kindOf (by omega) (by omega)) ?_
    rw [hk]
    refine jj_s (pc' := 38) rfl rfl ?_
    refine jj_iret rfl rfl ⟨?_, rfl, fin0⟩
    rw [zEdg, if_pos ok, ix_nI (by omega), ix_nI (by omega)]
    rw [kd_n, bt_prd] at c3
    unfold kd
    cases h1 : bt (F 11 j) i <;> cases h2 : bt (F 12 j) i <;> first | rfl | (rw [h1, h2] at c3; exact absurd rfl c3)
set_option maxHeartbeats 4000000 in
set_option maxRecDepth 100000 in
 theorem m_itemsIn {G : GC} {B n m N : Nat} {S : Nat → Int32} {F : Nat → Nat → Int32} {L : Nat} {pt : Nat → Int32} {len : Nat} {C : Nat → Int32} {sv : Nat → Option (Nat × (Nat → Int32) × (Nat → Nat → Int32))} {h : HT} (hN : N ≤ 20) (hM : ML B m N S F L pt len C sv h) (x : Int32) : CtJ G B M9_itemsIn [.ref (B + m), .int x] n h 0 0 (fun r2 n2 h2 => r2 = some (.int (zIn N F x)) ∧ n2 = n ∧ ML B m N S F L pt len C sv h2 ∧ tk m h h2) := by
  obtain ⟨A, Wy, V, hh, ha⟩ := hM
  have hw0 := ha.1.1
  have fin0 : ML B m N S F L pt len C sv (wM B m A Wy V h) ∧ tk m h (wM B m A Wy V h) := MLa.fin ha
  unfold CtJ
  refine jj_lv (lv' := [some (.ref (B + m)), some (.int x), none, none]) rfl ?_
  refine jj_h hh ?_
  refine jj_s (pc' := 1) rfl rfl ?_
  refine jj_s (pc' := 2) rfl rfl ?_
  refine jj_s (pc' := 4) rfl rfl ?_
  refine jj_t3 rfl rfl rfl rfl rfl (c9_isIn x 0 6) ?_
  refine jj_zF 13 rfl rfl (fun c1 => ?_) (fun c1 => ?_)
  · rw [show zIn N F x = msk (fun i => decide (F 5 i = x)) N by rw [zIn, if_pos c1]]
    refine jj_s (pc' := 14) rfl rfl ?_
    refine jj_s (pc' := 15) rfl rfl ?_
    refine jj_s (pc' := 16) rfl rfl ?_
    refine jj_s (pc' := 17) rfl rfl ?_
    have L1 : ∀ d k, k ≤ N → N + 1 ≤ k + d → JJ X0 G B M9_itemsIn 17 [some (.ref (B + m)), some (.int x), some (.int (msk (fun i => decide (F 5 i = x)) k)), some (.int (nI k))] [] n (wM B m A Wy V h) 0 0 (fun r2 n2 h2 => r2 = some (.int (msk (fun i => decide (F 5 i = x)) N)) ∧ n2 = n ∧ ML B m N S F L pt len C sv h2 ∧ tk m h h2) := by
      intro d
      induction d with
      | zero => intro k h1 h2; exact absurd h2 (by omega)
      | succ d ih =>
        intro k h1 h2
        refine jj_s (pc' := 18) rfl rfl ?_
        refine jj_s (pc' := 19) rfl rfl ?_
        refine jj_g rfl rfl wM_o rfl ?_
        refine jj_s (pc' := 23) rfl rfl ?_
        refine jj_m0 hw0 rfl ?_
        refine jj_geN 54 rfl rfl (by omega) (by omega) (fun c => ?_) (fun c => ?_)
        · refine jj_s (pc' := 55) rfl rfl ?_
          exact jj_iret rfl rfl ⟨by rw [show k = N by omega], rfl, fin0⟩
        · refine jj_s (pc' := 28) rfl rfl ?_
          refine jj_s (pc' := 29) rfl rfl ?_
          refine jj_s (pc' := 30) rfl rfl ?_
          refine jj_s (pc' := 32) rfl rfl ?_
          refine jj_v2 rfl rfl rfl wM_o rfl rfl (c9_of (a := 8) (by omega) (by decide)) ?_
          rw [(ha.1.2.2.1 k c).2.2.1]
          refine jj_s (pc' := 36) rfl rfl ?_
          refine jj_icmp_ne 45 rfl rfl (fun (c2 : ¬ F 5 k = x) => ?_) (fun (c2 : F 5 k = x) => ?_)
          · refine jj_s (pc' := 46) rfl rfl ?_
            refine jj_s (pc' := 47) rfl rfl ?_
            refine jj_s (pc' := 48) rfl rfl ?_
            first | refine jj_inc rfl rfl ?_ | refine jj_s (pc' := 51) rfl rfl ?_
            refine jj_s (pc' := 17) rfl rfl ?_
            refine jj_lv ?_ (ih (k + 1) (by omega) (by omega))
            have e : msk (fun i => decide (F 5 i = x)) k ||| 0 = msk (fun i => decide (F 5 i = x)) (k + 1) := by
              rw [msk, if_neg (by simp [c2])]
              exact b_ext fun q _ => by rw [b_or, b_0, Bool.or_false]
            exact congrArg (fun z => [some (Value.ref (B + m)), some (Value.int x), some (Value.int z), some (Value.int (nI (k + 1)))]) e
          · refine jj_s (pc' := 40) rfl rfl ?_
            refine jj_s (pc' := 41) rfl rfl ?_
            refine jj_s (pc' := 42) rfl rfl ?_
            refine jj_s (pc' := 46) rfl rfl ?_
            refine jj_s (pc' := 47) rfl rfl ?_
            refine jj_s (pc' := 48) rfl rfl ?_
            first | refine jj_inc rfl rfl ?_ | refine jj_s (pc' := 51) rfl rfl ?_
            refine jj_s (pc' := 17) rfl rfl ?_
            refine jj_lv ?_ (ih (k + 1) (by omega) (by omega))
            have e : msk (fun i => decide (F 5 i = x)) k ||| bit k = msk (fun i => decide (F 5 i = x)) (k + 1) := by
              rw [msk, if_pos (by simp [c2])]
            exact congrArg (fun z => [some (Value.ref (B + m)), some (Value.int x), some (Value.int z), some (Value.int (nI (k + 1)))]) e
    exact L1 (N + 1) 0 (by omega) (by omega)
  · refine jj_s (pc' := 12) rfl rfl ?_
    exact jj_iret rfl rfl ⟨by rw [zIn, if_neg (by rw [c1]; decide)]; rfl, rfl, fin0⟩
set_option maxHeartbeats 4000000 in
set_option maxRecDepth 100000 in
 theorem m_property {G : GC} {B n m N : Nat} {S : Nat → Int32} {F : Nat → Nat → Int32} {L : Nat} {pt : Nat → Int32} {len : Nat} {C : Nat → Int32} {sv : Nat → Option (Nat × (Nat → Int32) × (Nat → Nat → Int32))} {h : HT} (hN : N ≤ 20) (hM : ML B m N S F L pt len C sv h) (x y : Int32) : CtJ G B M9_property [.ref (B + m), .int x, .int y] n h 0 0 (fun r2 n2 h2 => r2 = some (.int (zPro N F x y)) ∧ n2 = n ∧ ML B m N S F L pt len C sv h2 ∧ tk m h h2) := by
  obtain ⟨A, Wy, V, hh, ha⟩ := hM
  have hw0 := ha.1.1
  have fin0 : ML B m N S F L pt len C sv (wM B m A Wy V h) ∧ tk m h (wM B m A Wy V h) := MLa.fin ha
  unfold CtJ
  refine jj_lv (lv' := [some (.ref (B + m)), some (.int x), some (.int y)]) rfl ?_
  refine jj_h hh ?_
  refine jj_s (pc' := 1) rfl rfl ?_
  refine jj_s (pc' := 2) rfl rfl ?_
  refine jj_v1 rfl rfl rfl wM_o rfl rfl (c9_isItem hN hw0 _) ?_
  refine jj_zF 10 rfl rfl (fun c1 => ?_) (fun c1 => ?_)
  · obtain ⟨i, hi, rfl⟩ := isN_of hN c1
    obtain ⟨g1, g2, g3, g4, g5, g6, g7⟩ := ha.1.2.2.1 i hi
    refine jj_s (pc' := 11) rfl rfl ?_
    refine jj_s (pc' := 12) rfl rfl ?_
    refine jj_s (pc' := 14) rfl rfl ?_
    refine jj_t3 rfl rfl rfl rfl rfl (c9_isIn y 0 7) ?_
    refine jj_zF 23 rfl rfl (fun c2 => ?_) (fun c2 => ?_)
    · have c2' := of_decide_eq_true c2
      obtain ⟨a, h1, rfl⟩ := nI_of (x := y) (Int32.not_lt.mpr c2'.1)
      have ha7 : a ≤ 7 := (nI_leI (a := a) (b := 7) h1 (by omega)).mp c2'.2
      have eq : ∀ k : Nat, k ≤ 7 → (nI a = nI k ↔ a = k) := fun k hk => nI_eq (by omega) (by omega)
      have last : zPro N F (nI i) (nI a) = ofW (A 0) i a → JJ X0 G B M9_property 60 [some (.ref (B + m)), some (.int (nI i)), some (.int (nI a))] [] n (wM B m A Wy V h) 0 0 (fun r2 n2 h2 => r2 = some (.int (zPro N F (nI i) (nI a))) ∧ n2 = n ∧ ML B m N S F L pt len C sv h2 ∧ tk m h h2) := by
        intro e
        refine jj_s (pc' := 61) rfl rfl ?_
        refine jj_s (pc' := 62) rfl rfl ?_
        refine jj_s (pc' := 63) rfl rfl ?_
        refine jj_v2 rfl rfl rfl wM_o rfl rfl (c9_of (by omega) (by omega)) ?_
        exact jj_iret rfl rfl ⟨by rw [e], rfl, fin0⟩
      have none7 : zPro N F (nI i) (nI a) = -7 → JJ X0 G B M9_property 57 [some (.ref (B + m)), some (.int (nI i)), some (.int (nI a))] [] n (wM B m A Wy V h) 0 0 (fun r2 n2 h2 => r2 = some (.int (zPro N F (nI i) (nI a))) ∧ n2 = n ∧ ML B m N S F L pt len C sv h2 ∧ tk m h h2) := by
        intro e
        refine jj_s (pc' := 59) rfl rfl ?_
        exact jj_iret rfl rfl ⟨by rw [e]; rfl, rfl, fin0⟩
      refine jj_s (pc' := 24) rfl rfl ?_
      refine jj_s (pc' := 26) rfl rfl ?_
      refine jj_icmp_ne 40 rfl rfl (fun (c3 : ¬ nI a = 6) => ?_) (fun (c3 : nI a = 6) => ?_)
      · refine jj_s (pc' := 41) rfl rfl ?_
        refine jj_s (pc' := 43) rfl rfl ?_
        refine jj_icmp_ne 60 rfl rfl (fun (c4 : ¬ nI a = 7) => ?_) (fun (c4 : nI a = 7) => ?_)
        · have c3 : a ≠ 6 := fun q => c3 (by rw [q]; rfl)
          have c4 : a ≠ 7 := fun q => c4 (by rw [q]; rfl)
          have ha5 : a = 0 ∨ a = 1 ∨ a = 2 ∨ a = 3 ∨ a = 4 ∨ a = 5 := by omega
          refine last ?_
          rw [zPro, if_pos c1, ix_nI (by omega)]
          rcases ha5 with rfl | rfl | rfl | rfl | rfl | rfl
          · rw [g1 0 (by omega)]; rfl
          · rw [g1 1 (by omega)]; rfl
          · rw [g1 2 (by omega)]; rfl
          · rw [g1 3 (by omega)]; rfl
          · rw [g1 4 (by omega)]; rfl
          · rw [g2]; rfl
        · have c4 : a = 7 := (eq 7 (by omega)).mp c4
          subst c4
          have e : zPro N F (nI i) (nI 7) = if F 5 i = 2 then F 8 i else -7 := by rw [zPro, if_pos c1, ix_nI (by omega)]; rfl
          refine jj_s (pc' := 47) rfl rfl ?_
          refine jj_s (pc' := 48) rfl rfl ?_
          refine jj_s (pc' := 50) rfl rfl ?_
          refine jj_v2 rfl rfl rfl wM_o rfl rfl (c9_of (a := 8) (by omega) (by decide)) ?_
          rw [g3]
          refine jj_s (pc' := 54) rfl rfl ?_
          refine jj_icmp_eq 60 rfl rfl (fun (c5 : F 5 i = 2) => last ?_) (fun (c5 : ¬ F 5 i = 2) => none7 ?_)
          · rw [e, if_pos c5, g6 c5]
          · rw [e, if_neg c5]
      · have c3 : a = 6 := (eq 6 (by omega)).mp c3
        subst c3
        have e : zPro N F (nI i) (nI 6) = if F 5 i = 1 then F 6 i else -7 := by rw [zPro, if_pos c1, ix_nI (by omega)]; rfl
        refine jj_s (pc' := 30) rfl rfl ?_
        refine jj_s (pc' := 31) rfl rfl ?_
        refine jj_s (pc' := 33) rfl rfl ?_
        refine jj_v2 rfl rfl rfl wM_o rfl rfl (c9_of (a := 8) (by omega) (by decide)) ?_
        rw [g3]
        refine jj_s (pc' := 37) rfl rfl ?_
        refine jj_icmp_ne 57 rfl rfl (fun (c5 : ¬ F 5 i = 1) => none7 ?_) (fun (c5 : F 5 i = 1) => ?_)
        · rw [e, if_neg c5]
        · refine jj_s (pc' := 41) rfl rfl ?_
          refine jj_s (pc' := 43) rfl rfl ?_
          refine jj_icmp_ne 60 rfl rfl (fun _ => last ?_) (fun c6 => absurd c6 (by decide))
          rw [e, if_pos c5, (g5 c5).1]
    · refine jj_s (pc' := 22) rfl rfl ?_
      refine jj_iret rfl rfl ⟨?_, rfl, fin0⟩
      have c2 := of_decide_eq_false c2
      have ne : ∀ k : Int32, (0 ≤ k ∧ k ≤ 7) → ¬ y = k := fun k hk q => c2 (q ▸ hk)
      rw [zPro, if_pos c1, if_neg (ne 0 (by decide)), if_neg (ne 1 (by decide)), if_neg (ne 2 (by decide)), if_neg (ne 3 (by decide)), if_neg (ne 4 (by decide)), if_neg (ne 5 (by decide)), if_neg (ne 6 (by decide)), if_neg (ne 7 (by decide))]
      rfl
  · refine jj_s (pc' := 9) rfl rfl ?_
    exact jj_iret rfl rfl ⟨by rw [zPro, if_neg (by rw [c1]; decide)]; rfl, rfl, fin0⟩
