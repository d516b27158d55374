/-! the reference reads -/
def TX (A : Nat → Nat → Int32) (V : Nat → Int32) (len : Nat) (C : Nat → Int32) (a : Nat) : Prop := V 6 = nI len ∧ (∀ j, j < len → A 3 j = C j) ∧ V 20 = nI a ∧ a ≤ 300 ∧ len ≤ 200
set_option maxHeartbeats 4000000 in
set_option maxRecDepth 100000 in
 theorem c9_isDigit {G : GC} {B n m : Nat} {A : Nat → Nat → Int32} {Wy : Nat → Int64} {V : Nat → Int32} {h : HT} {len a : Nat} {C : Nat → Int32} (hT : TX A V len C a) : CtJ G B M9_isDigit [.ref (B + m)] n (wM B m A Wy V h) 0 0 (eqP (some (.int (bI (isD (cH C len a))))) n (wM B m A Wy V h)) := by
  obtain ⟨t1, t2, t3, t4, t5⟩ := hT
  unfold CtJ
  refine jj_lv (lv' := [some (.ref (B + m))]) rfl ?_
  refine jj_s (pc' := 1) rfl rfl ?_
  refine jj_g rfl rfl wM_o rfl ?_
  refine jj_s (pc' := 5) rfl rfl ?_
  refine jj_g rfl rfl wM_o rfl ?_
  rw [t1, t3]
  refine jj_geN 34 rfl rfl (by omega) (by omega) (fun c => ?_) (fun c => ?_)
  · refine jj_s (pc' := 35) rfl rfl ?_
    exact jj_zret rfl rfl (Or.inl rfl) ⟨by rw [cH, if_neg (by omega)]; rfl, rfl, rfl⟩
  · have e : cH C len a = C a := by rw [cH, if_pos c]
    refine jj_s (pc' := 12) rfl rfl ?_
    refine jj_g rfl rfl wM_o rfl ?_
    refine jj_s (pc' := 16) rfl rfl ?_
    refine jj_g rfl rfl wM_o rfl ?_
    rw [t3]
    refine jj_mld (j := 3) (i := a) 200 rfl rfl (by decide) (by omega) ?_
    rw [t2 a c]
    refine jj_s (pc' := 22) rfl rfl ?_
    refine jj_s (pc' := 24) rfl rfl ?_
    refine jj_t3 rfl rfl rfl rfl rfl (c9_isIn (C a) 48 57) ?_
    rw [e]
    refine jj_zT 34 rfl rfl (fun c2 => ?_) (fun c2 => ?_)
    · refine jj_s (pc' := 35) rfl rfl ?_
      exact jj_zret rfl rfl (Or.inl rfl) ⟨by rw [show isD (C a) = false from c2]; rfl, rfl, rfl⟩
    · refine jj_s (pc' := 31) rfl rfl ?_
      refine jj_s (pc' := 35) rfl rfl ?_
      exact jj_zret rfl rfl (Or.inr rfl) ⟨by rw [show isD (C a) = true from c2]; rfl, rfl, rfl⟩
set_option maxHeartbeats 4000000 in
set_option maxRecDepth 100000 in
 theorem c9_fails {G : GC} {B n m : Nat} {A : Nat → Nat → Int32} {Wy : Nat → Int64} {V : Nat → Int32} {h : HT} (x : Int32) : CtJ G B M9_fails [.ref (B + m), .int x] n (wM B m A Wy V h) 0 0 (eqP none n (wM B m A Wy (upd V 21 (if V 21 = -7 then x else V 21)) h)) := by
  unfold CtJ
  refine jj_lv (lv' := [some (.ref (B + m)), some (.int x)]) rfl ?_
  refine jj_s (pc' := 1) rfl rfl ?_
  refine jj_s (pc' := 2) rfl rfl ?_
  refine jj_g rfl rfl wM_o rfl ?_
  refine jj_s (pc' := 7) rfl rfl ?_
  refine jj_icmp_ne 14 rfl rfl (fun (c : ¬ V 21 = -7) => ?_) (fun (c : V 21 = -7) => ?_)
  · refine jj_s (pc' := 15) rfl rfl ?_
    refine jj_g rfl rfl wM_o rfl ?_
    refine jj_mpt rfl rfl rfl rfl rfl rfl ?_
    exact jj_vret rfl rfl ⟨rfl, rfl, by rw [if_neg c]⟩
  · refine jj_s (pc' := 11) rfl rfl ?_
    refine jj_s (pc' := 18) rfl rfl ?_
    refine jj_mpt rfl rfl rfl rfl rfl rfl ?_
    exact jj_vret rfl rfl ⟨rfl, rfl, by rw [if_pos c]⟩
theorem upd_n {f : Nat → Int32} {k j : Nat} {x : Int32} (h : j ≠ k) : upd f k x j = f j := if_neg h
set_option maxHeartbeats 4000000 in
set_option maxRecDepth 100000 in
 theorem c9_number {G : GC} {B n m : Nat} {A : Nat → Nat → Int32} {Wy : Nat → Int64} {V : Nat → Int32} {h : HT} {len a : Nat} {C : Nat → Int32} (hT : TX A V len C a) (hW : V 21 = -7) : CtJ G B M9_number [.ref (B + m)] n (wM B m A Wy V h) 0 0 (fun r2 n2 h2 => n2 = n ∧ ((rN C len a).1 = none → r2 = some (.int 0) ∧ h2 = wM B m A Wy (upd V 21 (nI a)) h) ∧ ∀ v, (rN C len a).1 = some v → r2 = some (.int (nI v)) ∧ ∃ V', h2 = wM B m A Wy V' h ∧ (∀ j, j ≠ 20 → V' j = V j) ∧ V' 20 = nI (rN C len a).2) := by
  have hT' := hT
  obtain ⟨t1, t2, t3, t4, t5⟩ := hT
  unfold CtJ
  refine jj_lv (lv' := [some (.ref (B + m)), none]) rfl ?_
  refine jj_s (pc' := 1) rfl rfl ?_
  refine jj_v0 rfl rfl rfl wM_o rfl rfl (c9_isDigit hT') ?_
  refine jj_zF 17 rfl rfl (fun c => ?_) (fun c => ?_)
  · have hlt := isD_lt c
    have e : cH C len a = C a := by rw [cH, if_pos hlt]
    obtain ⟨d1, d2, d3⟩ := isD_dv c
    refine jj_s (pc' := 18) rfl rfl ?_
    refine jj_g rfl rfl wM_o rfl ?_
    refine jj_s (pc' := 22) rfl rfl ?_
    refine jj_g rfl rfl wM_o rfl ?_
    rw [t3]
    refine jj_mld (j := 3) (i := a) 200 rfl rfl (by decide) (by omega) ?_
    rw [t2 a hlt, ← e]
    refine jj_s (pc' := 28) rfl rfl ?_
    refine jj_s (pc' := 29) rfl rfl ?_
    refine jj_s (pc' := 30) rfl rfl ?_
    refine jj_lv (lv' := [some (.ref (B + m)), some (.int (nI (dv (cH C len a))))]) (by rw [← d1]; rfl) ?_
    refine jj_s (pc' := 31) rfl rfl ?_
    refine jj_s (pc' := 32) rfl rfl ?_
    refine jj_g rfl rfl wM_o rfl ?_
    refine jj_s (pc' := 36) rfl rfl ?_
    refine jj_s (pc' := 37) rfl rfl ?_
    refine jj_mpt rfl rfl rfl rfl rfl rfl ?_
    have hT2 : TX A (upd V 20 (V 20 + 1)) len C (a + 1) := ⟨by rw [upd_n (by decide)]; exact t1, t2, by rw [pk_us, t3, nI_1], by omega, t5⟩
    refine jj_h (h' := wM B m A Wy (upd V 20 (V 20 + 1)) h) rfl ?_
    have keep : ∀ j, j ≠ 20 → upd V 20 (V 20 + 1) j = V j := fun j hj => upd_n hj
    generalize upd V 20 (V 20 + 1) = V1 at hT2 keep ⊢
    have hT2' := hT2
    obtain ⟨u1, u2, u3, u4, u5⟩ := hT2
    refine jj_s (pc' := 41) rfl rfl ?_
    refine jj_v0 rfl rfl rfl wM_o rfl rfl (c9_isDigit hT2') ?_
    refine jj_zT 75 rfl rfl (fun c2 => ?_) (fun c2 => ?_)
    · have er : rN C len a = (some (dv (cH C len a)), a + 1) := by rw [rN, if_pos c, if_neg (by rw [c2]; decide)]
      refine jj_s (pc' := 76) rfl rfl ?_
      refine jj_iret rfl rfl ⟨rfl, fun q => (by rw [er] at q; cases q), fun v q => ?_⟩
      rw [er] at q ⊢
      cases q
      exact ⟨rfl, V1, rfl, keep, u3⟩
    · have hlt2 := isD_lt c2
      have e2 : cH C len (a + 1) = C (a + 1) := by rw [cH, if_pos hlt2]
      have er : rN C len a = (some (10 * dv (cH C len a) + dv (cH C len (a + 1))), a + 2) := by rw [rN, if_pos c, if_pos c2]
      refine jj_s (pc' := 49) rfl rfl ?_
      refine jj_s (pc' := 50) rfl rfl ?_
      refine jj_s (pc' := 51) rfl rfl ?_
      refine jj_s (pc' := 52) rfl rfl ?_
      refine jj_g rfl rfl wM_o rfl ?_
      refine jj_s (pc' := 56) rfl rfl ?_
      refine jj_g rfl rfl wM_o rfl ?_
      rw [u3]
      refine jj_mld (j := 3) (i := a + 1) 200 rfl rfl (by decide) (by omega) ?_
      rw [u2 _ hlt2, ← e2]
      refine jj_s (pc' := 61) rfl rfl ?_
      refine jj_s (pc' := 63) rfl rfl ?_
      refine jj_s (pc' := 64) rfl rfl ?_
      refine jj_s (pc' := 65) rfl rfl ?_
      refine jj_lv (lv' := [some (.ref (B + m)), some (.int (nI (10 * dv (cH C len a) + dv (cH C len (a + 1)))))]) (by rw [← num2 c2, Int32.mul_comm (nI (dv (cH C len a)))]; rfl) ?_
      refine jj_s (pc' := 66) rfl rfl ?_
      refine jj_s (pc' := 67) rfl rfl ?_
      refine jj_g rfl rfl wM_o rfl ?_
      refine jj_s (pc' := 71) rfl rfl ?_
      refine jj_s (pc' := 72) rfl rfl ?_
      refine jj_mpt rfl rfl rfl rfl rfl rfl ?_
      refine jj_s (pc' := 76) rfl rfl ?_
      refine jj_iret rfl rfl ⟨rfl, fun q => (by rw [er] at q; cases q), fun v q => ?_⟩
      rw [er] at q ⊢
      cases q
      refine ⟨rfl, _, rfl, fun j hj => by rw [upd_n hj]; exact keep j hj, ?_⟩
      rw [pk_us, u3]
      exact nI_1 (a + 1)
  · have er : rN C len a = (none, a) := by rw [rN, if_neg (by rw [c]; decide)]
    refine jj_s (pc' := 8) rfl rfl ?_
    refine jj_s (pc' := 9) rfl rfl ?_
    refine jj_g rfl rfl wM_o rfl ?_
    refine jj_w1 rfl rfl rfl wM_o rfl rfl (c9_fails _) ?_
    refine jj_s (pc' := 16) rfl rfl ?_
    refine jj_iret rfl rfl ⟨rfl, fun _ => ⟨rfl, ?_⟩, fun v q => (by rw [er] at q; cases q)⟩
    rw [if_pos hW, t3]
