/-! the reference reads the text, and loads it -/
theorem rE_ge (C : Nat → Int32) (len t : Nat) : ∀ m F a, a ≤ (rE C len t m F a).2.2 := by
  intro m
  induction m with
  | zero => intro F a; exact Nat.le_succ a
  | succ m ih =>
    intro F a
    obtain ⟨q1, q2, q3⟩ := rN_le (C := C) (len := len) (a := a + 1)
    unfold rE
    by_cases c1 : cH C len a = 59
    · rw [if_pos c1]; exact Nat.le_succ a
    · rw [if_neg c1]
      by_cases c2 : cH C len a = 60 ∨ cH C len a = 33
      · rw [if_pos c2]
        cases hv : (rN C len (a + 1)).1 with
        | none => show a ≤ (rN C len (a + 1)).2; omega
        | some v =>
          dsimp only
          by_cases c3 : v < t ∧ bt (prd F t) v = false
          · rw [if_pos c3]
            have := ih (ptF F v t (if cH C len a = 60 then 0 else 1)) (rN C len (a + 1)).2
            omega
          · rw [if_neg c3]; show a ≤ (rN C len (a + 1)).2; omega
      · rw [if_neg c2]; exact Nat.le_refl a
theorem rI_gt (C : Nat → Int32) {len : Nat} (N : Nat) (F : Nat → Nat → Int32) {a : Nat} (hl : len ≤ 200) (ha : a < len) (h : (rI C len N F a).1 = -7) : a < (rI C len N F a).2.2.2 := by
  obtain ⟨q1, q2, q3⟩ := rN_le (C := C) (len := len) (a := a + 2)
  revert h
  unfold rI
  by_cases c1 : N = 20 ∨ isD (cH C len a) = false
  · rw [if_pos c1]; intro h; exact absurd h (enc_ne (by omega))
  · rw [if_neg c1]
    by_cases c2 : ¬ cH C len (a + 1) = 119
    · rw [if_pos c2]; intro h; exact absurd h (enc_ne (by omega))
    · rw [if_neg c2]
      cases hv : (rN C len (a + 2)).1 with
      | none => intro h; exact absurd h (enc_ne (by omega))
      | some v =>
        dsimp only
        by_cases c3 : 1 ≤ v ∧ v ≤ 20
        · rw [if_pos c3]
          intro _
          have := rE_ge C len N 200 (apF F N (cH C len a - 48) (nI v) 3 0 0) (rN C len (a + 2)).2
          show a < (rE C len N 200 (apF F N (cH C len a - 48) (nI v) 3 0 0) (rN C len (a + 2)).2).2.2
          omega
        · rw [if_neg c3]; intro h; exact absurd h (enc_ne (by omega))
def fltQ (B m n : Nat) (F0 : Nat → Nat → Int32) (len : Nat) (C : Nat → Int32) (A : Nat → Nat → Int32) (Wy : Nat → Int64) (V : Nat → Int32) (h : HT) : Option Value → Nat → HT → Prop := fun r2 n2 h2 => r2 = some (.int (rdS C len F0).1) ∧ n2 = n ∧ ∃ A' V', h2 = wM B m A' Wy V' h ∧ (∀ j, j ≠ 15 → j ≠ 16 → j ≠ 17 → A' j = A j) ∧ (∀ j, j ≠ 20 → j ≠ 21 → j ≠ 25 → V' j = V j) ∧ ((rdS C len F0).1 = -7 → V' 25 = nI (rdS C len F0).2.1 ∧ DA (rdS C len F0).2.1 (rdS C len F0).2.2.1 A')
set_option maxHeartbeats 4000000 in
set_option maxRecDepth 100000 in
 theorem c9_fault {G : GC} {B n m : Nat} {A : Nat → Nat → Int32} {Wy : Nat → Int64} {V : Nat → Int32} {h : HT} {len : Nat} {C : Nat → Int32} (F0 : Nat → Nat → Int32) (hl : len ≤ 200) (h6 : V 6 = nI len) (h3 : ∀ j, j < len → A 3 j = C j) : CtJ G B M9_fault [.ref (B + m)] n (wM B m A Wy V h) 0 0 (fltQ B m n F0 len C A Wy V h) := by
  unfold CtJ
  refine jj_lv (lv' := [some (.ref (B + m))]) rfl ?_
  refine jj_s (pc' := 1) rfl rfl ?_
  refine jj_s (pc' := 2) rfl rfl ?_
  refine jj_mpt rfl rfl rfl rfl rfl rfl ?_
  refine jj_s (pc' := 6) rfl rfl ?_
  refine jj_s (pc' := 8) rfl rfl ?_
  refine jj_mpt rfl rfl rfl rfl rfl rfl ?_
  refine jj_s (pc' := 12) rfl rfl ?_
  refine jj_s (pc' := 13) rfl rfl ?_
  refine jj_mpt rfl rfl rfl rfl rfl rfl ?_
  refine jj_h (h' := wM B m A Wy (upd (upd (upd V 20 0) 21 (-7)) 25 0) h) rfl ?_
  have stop : ∀ (A1 : Nat → Nat → Int32) (V1 : Nat → Int32), ¬ V1 21 = -7 → V1 21 = (rdS C len F0).1 → (∀ j, j ≠ 15 → j ≠ 16 → j ≠ 17 → A1 j = A j) → (∀ j, j ≠ 20 → j ≠ 21 → j ≠ 25 → V1 j = V j) → JJ X0 G B M9_fault 16 [some (.ref (B + m))] [] n (wM B m A1 Wy V1 h) 0 0 (fltQ B m n F0 len C A Wy V h) := by
    intro A1 V1 hn he k1 k2
    refine jj_s (pc' := 17) rfl rfl ?_
    refine jj_g rfl rfl wM_o rfl ?_
    refine jj_s (pc' := 22) rfl rfl ?_
    refine jj_icmp_ne 43 rfl rfl (fun _ => ?_) (fun q => absurd q hn)
    refine jj_s (pc' := 44) rfl rfl ?_
    refine jj_g rfl rfl wM_o rfl ?_
    exact jj_iret rfl rfl ⟨by rw [he], rfl, A1, V1, rfl, k1, k2, fun q => absurd (he.trans q) hn⟩
  have L : ∀ mm N F a (A1 : Nat → Nat → Int32) (V1 : Nat → Int32), len ≤ a + mm → a ≤ len + 2 → N ≤ 20 → TX A1 V1 len C a → V1 21 = -7 → V1 25 = nI N → DA N F A1 → (∀ j, j ≠ 15 → j ≠ 16 → j ≠ 17 → A1 j = A j) → (∀ j, j ≠ 20 → j ≠ 21 → j ≠ 25 → V1 j = V j) → rdS C len F0 = rdL C len mm (-7) N F a → JJ X0 G B M9_fault 16 [some (.ref (B + m))] [] n (wM B m A1 Wy V1 h) 0 0 (fltQ B m n F0 len C A Wy V h) := by
    intro mm
    induction mm with
    | zero =>
      intro N F a A1 V1 h1 h2 hN hT hW hD hDA k1 k2 hE
      obtain ⟨t1, t2, t3, t4, t5⟩ := hT
      have hE : rdS C len F0 = (-7, N, F, a) := hE
      refine jj_s (pc' := 17) rfl rfl ?_
      refine jj_g rfl rfl wM_o rfl ?_
      refine jj_s (pc' := 22) rfl rfl ?_
      refine jj_icmp_ne 43 rfl rfl (fun q => absurd hW q) (fun _ => ?_)
      refine jj_s (pc' := 26) rfl rfl ?_
      refine jj_g rfl rfl wM_o rfl ?_
      refine jj_s (pc' := 30) rfl rfl ?_
      refine jj_g rfl rfl wM_o rfl ?_
      rw [t1, t3]
      refine jj_geN 43 rfl rfl (by omega) (by omega) (fun _ => ?_) (fun c => absurd c (by omega))
      refine jj_s (pc' := 44) rfl rfl ?_
      refine jj_g rfl rfl wM_o rfl ?_
      refine jj_iret rfl rfl ⟨by rw [hE, hW], rfl, A1, V1, rfl, k1, k2, fun _ => ?_⟩
      rw [hE]
      exact ⟨hD, hDA⟩
    | succ mm ih =>
      intro N F a A1 V1 h1 h2 hN hT hW hD hDA k1 k2 hE
      have hT' := hT
      obtain ⟨t1, t2, t3, t4, t5⟩ := hT
      refine jj_s (pc' := 17) rfl rfl ?_
      refine jj_g rfl rfl wM_o rfl ?_
      refine jj_s (pc' := 22) rfl rfl ?_
      refine jj_icmp_ne 43 rfl rfl (fun q => absurd hW q) (fun _ => ?_)
      refine jj_s (pc' := 26) rfl rfl ?_
      refine jj_g rfl rfl wM_o rfl ?_
      refine jj_s (pc' := 30) rfl rfl ?_
      refine jj_g rfl rfl wM_o rfl ?_
      rw [t1, t3]
      refine jj_geN 43 rfl rfl (by omega) (by omega) (fun c => ?_) (fun c => ?_)
      · have hE : rdS C len F0 = (-7, N, F, a) := by rw [hE, rdL, if_neg (fun z => by omega)]
        refine jj_s (pc' := 44) rfl rfl ?_
        refine jj_g rfl rfl wM_o rfl ?_
        refine jj_iret rfl rfl ⟨by rw [hE, hW], rfl, A1, V1, rfl, k1, k2, fun _ => ?_⟩
        rw [hE]
        exact ⟨hD, hDA⟩
      · have hE : rdS C len F0 = rdL C len mm (rI C len N F a).1 (rI C len N F a).2.1 (rI C len N F a).2.2.1 (rI C len N F a).2.2.2 := by rw [hE, rdL, if_pos ⟨c, rfl⟩]
        refine jj_s (pc' := 37) rfl rfl ?_
        refine jj_vp0 rfl rfl rfl wM_o rfl rfl (c9_readItem hT' hN c hW hD hDA) (fun r n' h' z => ?_)
        obtain ⟨rfl, rfl, A2, V2, rfl, y1, y2, y3, y4⟩ := z
        have k12 : (∀ j, j ≠ 15 → j ≠ 16 → j ≠ 17 → A2 j = A j) := fun j j1 j2 j3 => (y1 j j1 j2 j3).trans (k1 j j1 j2 j3)
        have k22 : (∀ j, j ≠ 20 → j ≠ 21 → j ≠ 25 → V2 j = V j) := fun j j1 j2 j3 => (y2 j j1 j2 j3).trans (k2 j j1 j2 j3)
        refine jj_s (pc' := 16) rfl rfl ?_
        by_cases hr : (rI C len N F a).1 = -7
        · obtain ⟨x1, x2, x3, x4⟩ := y4 hr
          have g1 := rI_gt C N F hl c hr
          obtain ⟨g2, g3⟩ := rI_le C F c hN
          rw [x3] at g3
          rw [hr, x3] at hE
          exact ih (N + 1) _ _ A2 V2 (by omega) g2 g3 ⟨by rw [y2 6 (by decide) (by decide) (by decide)]; exact t1, fun j hj => by rw [y1 3 (by decide) (by decide) (by decide)]; exact t2 j hj, x1, by omega, t5⟩ (y3.trans hr) x2 x4 k12 k22 hE
        · refine stop A2 V2 (fun q => hr (y3.symm.trans q)) ?_ k12 k22
          rw [y3, hE]
          cases mm with
          | zero => rfl
          | succ mm => rw [rdL, if_neg (fun z => hr z.2)]
  refine L 200 0 F0 0 A _ (by omega) (by omega) (by omega) ⟨by rw [upd_n (by decide), upd_n (by decide), upd_n (by decide)]; exact h6, h3, by rw [upd_n (by decide), upd_n (by decide), pk_us]; rfl, by omega, hl⟩ (by rw [upd_n (by decide), pk_us]) (by rw [pk_us]; rfl) (fun i hi => absurd hi (by omega)) (fun j _ _ _ => rfl) (fun j j1 j2 j3 => by rw [upd_n j3, upd_n j2, upd_n j1]) rfl
set_option maxHeartbeats 4000000 in
set_option maxRecDepth 100000 in
 theorem m_fault {G : GC} {B n m N : Nat} {S : Nat → Int32} {F : Nat → Nat → Int32} {L : Nat} {pt : Nat → Int32} {len : Nat} {C : Nat → Int32} {sv : Nat → Option (Nat × (Nat → Int32) × (Nat → Nat → Int32))} {h : HT} (hN : N ≤ 20) (hM : ML B m N S F L pt len C sv h) (hl : len ≤ 200) (F0 : Nat → Nat → Int32) : CtJ G B M9_fault [.ref (B + m)] n h 0 0 (fun r2 n2 h2 => r2 = some (.int ((rdS C len F0).1)) ∧ n2 = n ∧ ML B m N S F L pt len C sv h2 ∧ tk m h h2) := by
  obtain ⟨A, Wy, V, hh, ha⟩ := hM
  unfold CtJ
  refine jj_h hh ?_
  have := c9_fault (G := G) (B := B) (n := n) (m := m) (Wy := Wy) (h := h) F0 hl ha.2.2.2.1 ha.2.2.2.2.1
  refine jj_mono this (fun r n' h' z => ?_)
  obtain ⟨rfl, rfl, A', V', rfl, k1, k2, k3⟩ := z
  exact ⟨rfl, rfl, MLa.fin (ha.w (by rw [k1 0 (by decide) (by decide) (by decide)]; exact ha.1) (fun j j1 _ => k1 j (by omega) (by omega) (by omega)) (k2 2 (by decide) (by decide) (by decide)) (k2 4 (by decide) (by decide) (by decide)) (k2 6 (by decide) (by decide) (by decide)))⟩
/-! load -/
theorem kd_0b {F : Nat → Nat → Int32} {p i : Nat} (hp : bt (prd F i) p = false) : kd F p i = 0 := by
  rw [bt_prd] at hp
  unfold kd
  cases h1 : bt (F 11 i) p with
  | true => rw [h1] at hp; cases hp
  | false =>
    cases h2 : bt (F 12 i) p with
    | true => rw [h1, h2] at hp; cases hp
    | false => rfl
theorem RDi_0 {F : Nat → Nat → Int32} {p i : Nat} (h : RDi F i) (hp : i ≤ p) : kd F p i = 0 := by
  refine kd_0b ?_
  cases hb : bt (prd F i) p with
  | false => rfl
  | true => have := h.2.2.2.2.2.2.2.2 p hb; omega
theorem ld_mw {k : Nat} {S : Nat → Int32} {F : Nat → Nat → Int32} {w w2 w3 : Nat → Int32} (hk : k < 20) (hm : MW k S F w) (hap : apP k (F 0 k) (F 1 k) 3 0 0 w w2) (hF : ∀ i, i < k + 1 → RDi F i) (h245 : ∀ q, q < 245 → w3 q = w2 q) (hkd : ∀ x i, x < 20 → i < 20 → kdW w3 x i = if i = k ∧ x < k then kd F x k else kdW w2 x i) : MW (k + 1) S F w3 := by
  obtain ⟨m0, m1, m2, m3⟩ := hm
  obtain ⟨h0, h1, h2, ⟨r0, r1, r2, r3, r4, r5, r8, r9⟩, h4⟩ := hap
  refine ⟨(h245 0 (by omega)).trans h0, fun q q1 q4 => ((h245 q (by omega)).trans (h1 q q1 q4)).trans (m1 q q1 q4), fun i hi => ?_, fun p i hp hi => ?_⟩
  · by_cases ei : i = k
    · subst ei
      obtain ⟨-, -, f2, f3, f4, f5, f9, f10, -⟩ := hF i (by omega)
      refine ⟨fun q hq => ?_, ?_, ?_, ?_, fun z => absurd (f5.symm.trans z) (by decide), fun z => absurd (f5.symm.trans z) (by decide), by rw [f5]; decide⟩
      · show w3 _ = _
        rw [h245 _ (by omega)]
        have : q = 0 ∨ q = 1 ∨ q = 2 ∨ q = 3 ∨ q = 4 := by omega
        rcases this with rfl | rfl | rfl | rfl | rfl
        · exact r0
        · exact r1
        · rw [f2]; exact r2
        · rw [f3]; exact r3
        · rw [f4]; exact r4
      · show w3 _ = _
        rw [h245 _ (by omega), f9]; exact r5
      · show w3 _ = _
        rw [h245 _ (by omega), f5]; exact r8
      · show w3 _ = _
        rw [h245 _ (by omega), f10]; exact r9
    · refine (m2 i (by omega)).cong (fun q hq => ?_) (fun q => rfl)
      show w3 _ = _
      rw [h245 _ (by omega)]
      exact h2 i (by omega) ei q hq
  · rw [hkd p i (by omega) (by omega)]
    by_cases ei : i = k
    · subst ei
      by_cases ep : p < i
      · rw [if_pos ⟨rfl, ep⟩]
      · rw [if_neg (fun z => ep z.2), h4 p i (by omega) (by omega), if_pos (Or.inr rfl), RDi_0 (hF i (by omega)) (by omega)]
    · rw [if_neg (fun z => ei z.1), h4 p i (by omega) (by omega)]
      by_cases ep : p = k
      · subst ep
        rw [if_pos (Or.inl rfl), RDi_0 (hF i (by omega)) (by omega)]
      · rw [if_neg (by omega)]
        exact m3 p i (by omega) (by omega)
/-- the rows that a load begins with -/
def ldF (C : Nat → Int32) (len : Nat) (Fd F : Nat → Nat → Int32) : Nat → Nat → Int32 := fun j => cp ((rdS C len Fd).2.2.1 j) (F j)
theorem ldF_at (C : Nat → Int32) (len : Nat) (Fd F : Nat → Nat → Int32) (j : Nat) {i : Nat} (hi : i < 20) : ldF C len Fd F j i = (rdS C len Fd).2.2.1 j i := cp_lt _ _ hi
theorem ldF_RD (C : Nat → Int32) (len : Nat) (Fd F : Nat → Nat → Int32) : RD (rdS C len Fd).2.1 (ldF C len Fd F) := fun i hi => RDi_cong (fun j => ldF_at C len Fd F j (by have := (rdS_RD C len Fd).1; omega)) ((rdS_RD C len Fd).2 i hi)
set_option maxHeartbeats 4000000 in
set_option maxRecDepth 100000 in
 theorem m_load {G : GC} {B n m N : Nat} {S : Nat → Int32} {F : Nat → Nat → Int32} {L : Nat} {pt : Nat → Int32} {len : Nat} {C : Nat → Int32} {sv : Nat → Option (Nat × (Nat → Int32) × (Nat → Nat → Int32))} {h : HT} (hN : N ≤ 20) (hM : ML B m N S F L pt len C sv h) (hl : len ≤ 200) (Fd : Nat → Nat → Int32) (hT : (rdS C len Fd).1 = -7 → stt S (rdS C len Fd).2.1 1000 (ldF C len Fd F) = true) : CtJ G B M9_load [.ref (B + m)] n h 0 0 (fun r2 n2 h2 => n2 = n ∧ tk m h h2 ∧ if (rdS C len Fd).1 = -7 then (r2 = some (.int (nI (rdS C len Fd).2.1)) ∧ ML B m (rdS C len Fd).2.1 S (stl S (rdS C len Fd).2.1 1000 (ldF C len Fd F)) 0 pt len C sv h2) else (r2 = some (.int (-4)) ∧ ML B m N S F L pt len C sv h2)) := by
  obtain ⟨A, Wy, V, hh, ha⟩ := hM
  unfold CtJ
  refine jj_lv (lv' := [some (.ref (B + m)), none, none, none]) rfl ?_
  refine jj_h hh ?_
  refine jj_s (pc' := 1) rfl rfl ?_
  refine jj_vp0 rfl rfl rfl wM_o rfl rfl (c9_fault Fd hl ha.2.2.2.1 ha.2.2.2.2.1) (fun r n' h' z => ?_)
  obtain ⟨rfl, rfl, A1, V1, rfl, k1, k2, k3⟩ := z
  refine jj_s (pc' := 6) rfl rfl ?_
  refine jj_icmp_eq 12 rfl rfl (fun (c : (rdS C len Fd).1 = -7) => ?_) (fun (c : ¬ (rdS C len Fd).1 = -7) => ?_)
  · obtain ⟨x1, x2⟩ := k3 c
    have hT := hT c
    have hN2 := (rdS_RD C len Fd).1
    have hRD := ldF_RD C len Fd F
    have hat : ∀ i, i < (rdS C len Fd).2.1 → ∀ j, ldF C len Fd F j i = (rdS C len Fd).2.2.1 j i := fun i hi j => ldF_at C len Fd F j (by omega)
    have hkd : ∀ i, i < (rdS C len Fd).2.1 → ∀ p, p < 20 → A1 17 (20 * p + i) = kd (ldF C len Fd F) p i := by
      intro i hi p hp
      rw [(x2 i hi).2.2 p hp]
      unfold kd
      rw [hat i hi, hat i hi]
    have h15 : ∀ i, i < (rdS C len Fd).2.1 → A1 15 i = ldF C len Fd F 0 i := fun i hi => by rw [hat i hi]; exact (x2 i hi).1
    have h16 : ∀ i, i < (rdS C len Fd).2.1 → A1 16 i = ldF C len Fd F 1 i := fun i hi => by rw [hat i hi]; exact (x2 i hi).2.1
    generalize ldF C len Fd F = Fz at hT hRD hat hkd h15 h16 ⊢
    generalize hNz : (rdS C len Fd).2.1 = Nz at x1 x2 hT hN2 hRD hat hkd h15 h16 ⊢
    refine jj_s (pc' := 13) rfl rfl ?_
    refine jj_g rfl rfl wM_o rfl ?_
    refine jj_s (pc' := 17) rfl rfl ?_
    refine jj_s (pc' := 18) rfl rfl ?_
    refine jj_mst (i := 0) 645 rfl rfl (by decide) (by decide) ?_
    refine jj_s (pc' := 20) rfl rfl ?_
    refine jj_s (pc' := 21) rfl rfl ?_
    refine jj_mpt rfl rfl rfl rfl rfl rfl ?_
    refine jj_h (h' := wM B m (uF A1 0 0 0) Wy (upd V1 4 0) h) rfl ?_
    have v25 : upd V1 4 0 25 = nI Nz := (upd_n (by decide)).trans x1
    refine jj_s (pc' := 25) rfl rfl ?_
    refine jj_s (pc' := 26) rfl rfl ?_
    have L1 : ∀ d k (A2 : Nat → Nat → Int32) z2 z3, k ≤ Nz → Nz + 1 ≤ k + d → MW k S Fz (A2 0) → (∀ j, j ≠ 0 → A2 j = A1 j) → JJ X0 G B M9_load 26 [some (.ref (B + m)), some (.int (nI k)), z2, z3] [] n' (wM B m A2 Wy (upd V1 4 0) h) 0 0 (fun r2 n2 h2 => n2 = n' ∧ tk m h h2 ∧ if (rdS C len Fd).1 = -7 then (r2 = some (.int (nI Nz)) ∧ ML B m Nz S (stl S Nz 1000 Fz) 0 pt len C sv h2) else (r2 = some (.int (-4)) ∧ ML B m N S F L pt len C sv h2)) := by
      intro d
      induction d with
      | zero => intro k A2 z2 z3 h1 h2; exact absurd h2 (by omega)
      | succ d ih =>
        intro k A2 z2 z3 h1 h2 hm2 hA2
        refine jj_s (pc' := 27) rfl rfl ?_
        refine jj_s (pc' := 28) rfl rfl ?_
        refine jj_g rfl rfl wM_o rfl ?_
        rw [v25]
        refine jj_geN 99 rfl rfl (by omega) (by omega) (fun ck => ?_) (fun ck => ?_)
        · have hk : k = Nz := by omega
          subst hk
          have ha0 : MLa N S F 0 pt len C sv A (upd V 4 0) := by
            obtain ⟨a0, a1, a2, a3, a4, a5⟩ := ha
            exact ⟨a0, pk_us, fun j hj => absurd hj (by omega), (upd_n (by decide)).trans a3, a4, fun s hs => by rw [upd_n (by decide)]; exact a5 s hs⟩
          refine jj_s (pc' := 100) rfl rfl ?_
          refine jj_vp0 rfl rfl rfl wM_o rfl rfl (c9_settle hN2 hm2 hT) (fun r n' h' q => ?_)
          obtain ⟨rfl, rfl, A3, rfl, ha'⟩ := q.ml ha0 (fun j j1 j2 => by rw [hA2 j j2]; exact k1 j (by omega) (by omega) (by omega)) (by rw [upd_n (by decide), upd_n (by decide)]; exact k2 2 (by decide) (by decide) (by decide)) (by rw [pk_us, pk_us]) (by rw [upd_n (by decide), upd_n (by decide)]; exact k2 6 (by decide) (by decide) (by decide))
          have hw0 := ha'.1.1
          refine jj_s (pc' := 104) rfl rfl ?_
          refine jj_g rfl rfl wM_o rfl ?_
          refine jj_s (pc' := 108) rfl rfl ?_
          refine jj_m0 hw0 rfl ?_
          have hf := MLa.fin (B := B) (m := m) (Wy := Wy) (h := h) ha'
          exact jj_iret rfl rfl ⟨rfl, hf.2, by rw [if_pos c]; exact ⟨rfl, hf.1⟩⟩
        · have e15 : A2 15 k = Fz 0 k := by rw [hA2 15 (by decide)]; exact h15 k ck
          have e16 : A2 16 k = Fz 1 k := by rw [hA2 16 (by decide)]; exact h16 k ck
          refine jj_s (pc' := 35) rfl rfl ?_
          refine jj_s (pc' := 36) rfl rfl ?_
          refine jj_g rfl rfl wM_o rfl ?_
          refine jj_s (pc' := 40) rfl rfl ?_
          refine jj_mld 20 rfl rfl (by decide) (by first | assumption | omega) ?_
          refine jj_s (pc' := 42) rfl rfl ?_
          refine jj_g rfl rfl wM_o rfl ?_
          refine jj_s (pc' := 46) rfl rfl ?_
          refine jj_mld 20 rfl rfl (by decide) (by first | assumption | omega) ?_
          refine jj_s (pc' := 48) rfl rfl ?_
          refine jj_s (pc' := 49) rfl rfl ?_
          refine jj_s (pc' := 50) rfl rfl ?_
          rw [e15, e16]
          refine jj_vp5 rfl rfl rfl wM_o rfl rfl (c9_append (N := k) (by omega) hm2.1 _ _ _ _ _) (fun r n' h' q => ?_)
          obtain ⟨rfl, rfl, A3, rfl, hap, hj⟩ := q
          refine jj_s (pc' := 54) rfl rfl ?_
          refine jj_s (pc' := 55) rfl rfl ?_
          refine jj_s (pc' := 56) rfl rfl ?_
          have L2 : ∀ d p (A4 : Nat → Nat → Int32), p ≤ k → k + 1 ≤ p + d → (∀ q, q < 245 → A4 0 q = A3 0 q) → (∀ x i, x < 20 → i < 20 → kdW (A4 0) x i = if i = k ∧ x < p then kd Fz x k else kdW (A3 0) x i) → (∀ j, j ≠ 0 → A4 j = A1 j) → JJ X0 G B M9_load 56 [some (.ref (B + m)), some (.int (nI k)), some (.int (nI k)), some (.int (nI p))] [] n' (wM B m A4 Wy (upd V1 4 0) h) 0 0 (fun r2 n2 h2 => n2 = n' ∧ tk m h h2 ∧ if (rdS C len Fd).1 = -7 then (r2 = some (.int (nI Nz)) ∧ ML B m Nz S (stl S Nz 1000 Fz) 0 pt len C sv h2) else (r2 = some (.int (-4)) ∧ ML B m N S F L pt len C sv h2)) := by
            intro d2
            induction d2 with
            | zero => intro p A4 g1 g2; exact absurd g2 (by omega)
            | succ d2 ih2 =>
              intro p A4 g1 g2 s0 s1 s2
              refine jj_s (pc' := 57) rfl rfl ?_
              refine jj_s (pc' := 58) rfl rfl ?_
              refine jj_geN 93 rfl rfl (by omega) (by omega) (fun cq => ?_) (fun cq => ?_)
              · have hp : p = k := by omega
                rw [hp] at s1 ⊢
                first | refine jj_inc rfl rfl ?_ | refine jj_s (pc' := 96) rfl rfl ?_
                refine jj_s (pc' := 26) rfl rfl ?_
                exact ih (k + 1) A4 _ _ (by omega) (by omega) (ld_mw (by omega) hm2 hap (fun i hi => hRD i (by omega)) s0 s1) s2
              · refine jj_s (pc' := 62) rfl rfl ?_
                refine jj_g rfl rfl wM_o rfl ?_
                refine jj_s (pc' := 68) rfl rfl ?_
                refine jj_s (pc' := 70) rfl rfl ?_
                refine jj_s (pc' := 71) rfl rfl ?_
                refine jj_s (pc' := 72) rfl rfl ?_
                refine jj_s (pc' := 73) rfl rfl ?_
                refine jj_s (pc' := 74) rfl rfl ?_
                refine jj_s (pc' := 75) rfl rfl ?_
                refine jj_s (pc' := 76) rfl rfl ?_
                refine jj_g rfl rfl wM_o rfl ?_
                refine jj_s (pc' := 81) rfl rfl ?_
                refine jj_s (pc' := 82) rfl rfl ?_
                refine jj_s (pc' := 83) rfl rfl ?_
                refine jj_s (pc' := 84) rfl rfl ?_
                refine jj_s (pc' := 85) rfl rfl ?_
                refine jj_st (by rw [ix20 p k, ixK p k]) ?_
                refine jj_mld (j := 17) (i := 20 * p + k) 400 rfl rfl (by decide) (by omega) ?_
                rw [s2 17 (by decide), hkd k ck p (by omega)]
                refine jj_mst (j := 0) (i := 245 + 20 * p + k) 645 rfl rfl (by decide) (by omega) ?_
                refine jj_h (h' := wM B m (uF A4 0 (245 + 20 * p + k) (kd Fz p k)) Wy (upd V1 4 0) h) rfl ?_
                first | refine jj_inc rfl rfl ?_ | refine jj_s (pc' := 90) rfl rfl ?_
                refine jj_s (pc' := 56) rfl rfl ?_
                refine ih2 (p + 1) _ (by omega) (by omega) (fun q hq => ?_) (fun x i hx hi => ?_) (fun j hj => ?_)
                · rw [uF_i _ _ _ _ (by omega)]; exact s0 q hq
                · show uF _ _ _ _ 0 (245 + 20 * x + i) = _
                  have := s1 x i hx hi
                  by_cases z : i = k ∧ x = p
                  · obtain ⟨rfl, rfl⟩ := z
                    rw [uF_s, if_pos ⟨rfl, by omega⟩]
                  · rw [uF_i _ _ _ _ (by omega)]
                    by_cases z2 : i = k ∧ x < p
                    · rw [if_pos ⟨z2.1, by omega⟩]; rw [if_pos z2] at this; exact this
                    · rw [if_neg (by omega)]; rw [if_neg z2] at this; exact this
                · rw [uF_j _ _ _ _ hj]; exact s2 j hj
          exact L2 (k + 1) 0 A3 (by omega) (by omega) (fun q _ => rfl) (fun x i _ _ => by rw [if_neg (by omega)]) (fun j hj0 => (hj j hj0).trans (hA2 j hj0))
    refine L1 (Nz + 1) 0 _ none none (by omega) (by omega) ⟨uF_s _ _ _ _, fun q q1 q4 => ?_, fun i hi => absurd hi (by omega), fun p i hp => absurd hp (by omega)⟩ (fun j hj => uF_j _ _ _ _ hj)
    rw [uF_i _ _ _ _ (by omega), k1 0 (by decide) (by decide) (by decide)]
    exact ha.1.2.1 q q1 q4
  · have hf := MLa.fin (B := B) (m := m) (Wy := Wy) (h := h) (ha.w (A' := A1) (V' := V1) (by rw [k1 0 (by decide) (by decide) (by decide)]; exact ha.1) (fun j j1 _ => k1 j (by omega) (by omega) (by omega)) (k2 2 (by decide) (by decide) (by decide)) (k2 4 (by decide) (by decide) (by decide)) (k2 6 (by decide) (by decide) (by decide)))
    refine jj_s (pc' := 11) rfl rfl ?_
    exact jj_iret rfl rfl ⟨rfl, hf.2, by rw [if_neg c]; exact ⟨rfl, hf.1⟩⟩
