/-! Text: its object at o, its draft at o + 1, its codes at o + 15 -/
abbrev tob (B o len at' : Nat) : AE := ob 6 [.int (nI len), .ref (B + (o + 1)), .ref (B + (o + 15)), .int (nI at')]
def wT (B o len at' : Nat) (C : Nat → Int32) (h : HT) : HT := fun k => if k = o then some (tob B o len at') else if k = o + 15 then some (ia 200 C) else h k
/-- with the draft -/
abbrev wX (B o len at' : Nat) (C : Nat → Int32) (N : Nat) (S : Nat → Int32) (F : Nat → Nat → Int32) (h : HT) : HT := wQ B (o + 1) N S F (wT B o len at' C h)
theorem wX_o {B o len at' : Nat} {C : Nat → Int32} {N : Nat} {S : Nat → Int32} {F : Nat → Nat → Int32} {h : HT} : wX B o len at' C N S F h o = some (tob B o len at') := (wQ_n (by omega)).trans (if_pos rfl)
theorem wX_c {B o len at' : Nat} {C : Nat → Int32} {N : Nat} {S : Nat → Int32} {F : Nat → Nat → Int32} {h : HT} : wX B o len at' C N S F h (o + 15) = some (ia 200 C) := (wQ_n (by omega)).trans (by unfold wT; rw [if_neg (by omega), if_pos rfl])
theorem wX_pc {B o len at' : Nat} {C C' : Nat → Int32} {N : Nat} {S : Nat → Int32} {F : Nat → Nat → Int32} {h : HT} : hu (wX B o len at' C N S F h) (o + 15) (ia 200 C') = wX B o len at' C' N S F h := by
  refine (wQ_hu (by omega)).trans ?_
  congr 1
  funext k
  by_cases e : k = o + 15
  · subst e; rw [hu_s]; unfold wT; rw [if_neg (by omega), if_pos rfl]
  · rw [hu_n _ _ _ e]; unfold wT; simp only [e, if_false]
theorem wX_po {B o len at' len2 at2 : Nat} {C : Nat → Int32} {N : Nat} {S : Nat → Int32} {F : Nat → Nat → Int32} {h : HT} {fs : List Value} (he : ob 6 fs = tob B o len2 at2) : hu (wX B o len at' C N S F h) o (ob 6 fs) = wX B o len2 at2 C N S F h := by
  rw [he]
  refine (wQ_hu (by omega)).trans ?_
  congr 1
  funext k
  by_cases e : k = o
  · subst e; rw [hu_s]; unfold wT; rw [if_pos rfl]
  · rw [hu_n _ _ _ e]; unfold wT; simp only [e, if_false]
theorem jj_tat {X : State → Prop} {G : GC} {B : Nat} {y : MT} {pc : Nat} {lv : List (Option Value)} {st : List Value} {n : Nat} {h : HT} {kc ks : Nat} {post : Option Value → Nat → HT → Prop} {o len a : Nat} {C : Nat → Int32} {N : Nat} {S : Nat → Int32} {F : Nat → Nat → Int32} {idx : Nat} (hd : lk (M_tb y) pc = some (.putfield idx)) (hf : fld (M_own y) idx = some (6, 3)) (K : JJ X G B y (pc + 3) lv st n (wX B o len (a + 1) C N S F h) kc ks post) : JJ X G B y pc lv (.int (nI a + Int32.ofInt 1) :: .ref (B + o) :: st) n (wX B o len a C N S F h) kc ks post := by
  refine jj_p hd hf rfl rfl wX_o rfl (jj_h (wX_po (len2 := len) (at2 := a + 1) ?_) K)
  show ob 6 [.int (nI len), .ref (B + (o + 1)), .ref (B + (o + 15)), .int (nI a + Int32.ofInt 1)] = ob 6 [.int (nI len), .ref (B + (o + 1)), .ref (B + (o + 15)), .int (nI (a + 1))]
  rw [show nI a + Int32.ofInt 1 = nI (a + 1) from nI_1 a]
def cH (C : Nat → Int32) (len a : Nat) : Int32 := if a < len then C a else 0
set_option maxHeartbeats 4000000 in
set_option maxRecDepth 100000 in
 theorem c_codeHere {G : GC} {B n : Nat} {h : HT} {o len a : Nat} {C : Nat → Int32} {N : Nat} {S : Nat → Int32} {F : Nat → Nat → Int32} (hl : len ≤ 200) (ha : a < 1000) : CtJ G B M6_codeHere [.ref (B + o)] n (wX B o len a C N S F h) 0 0 (eqP (some (.int (cH C len a))) n (wX B o len a C N S F h)) := by
  unfold CtJ
  refine jj_lv (lv' := [some (.ref (B + o))]) rfl ?_
  refine jj_s (pc' := 1) rfl rfl ?_
  refine jj_g rfl rfl wX_o rfl ?_
  refine jj_s (pc' := 5) rfl rfl ?_
  refine jj_g rfl rfl wX_o rfl ?_
  refine jj_geN 23 rfl rfl (by omega) (by omega) (fun c => ?_) (fun c => ?_)
  · refine jj_s (pc' := 24) rfl rfl ?_
    exact jj_iret rfl rfl ⟨by rw [cH, if_neg (by omega)]; rfl, rfl, rfl⟩
  · refine jj_s (pc' := 12) rfl rfl ?_
    refine jj_g rfl rfl wX_o rfl ?_
    refine jj_s (pc' := 16) rfl rfl ?_
    refine jj_g rfl rfl wX_o rfl ?_
    refine jj_ialdN rfl wX_c (by omega) rfl ?_
    refine jj_s (pc' := 24) rfl rfl ?_
    exact jj_iret rfl rfl ⟨by rw [cH, if_pos c], rfl, rfl⟩
def isD (c : Int32) : Bool := decide (48 ≤ c ∧ c ≤ 57)
set_option maxHeartbeats 4000000 in
set_option maxRecDepth 100000 in
 theorem c_isDigit {G : GC} {B n : Nat} {h : HT} (x : Int32) : CtJ G B M6_isDigit [.int x] n h 0 0 (eqP (some (.int (bI (isD x)))) n h) := by
  unfold CtJ
  refine jj_lv (lv' := [some (.int x)]) rfl ?_
  refine jj_s (pc' := 1) rfl rfl ?_
  refine jj_s (pc' := 3) rfl rfl ?_
  refine jj_icmp_lt 16 rfl rfl (fun (c1 : x < 48) => ?_) (fun (c1 : ¬ x < 48) => ?_)
  · refine jj_s (pc' := 17) rfl rfl ?_
    exact jj_zret rfl rfl (Or.inl rfl) ⟨by simp [isD, bI, Int32.not_le.mpr c1], rfl, rfl⟩
  · refine jj_s (pc' := 7) rfl rfl ?_
    refine jj_s (pc' := 9) rfl rfl ?_
    refine jj_icmp_gt 16 rfl rfl (fun (c2 : 57 < x) => ?_) (fun (c2 : ¬ 57 < x) => ?_)
    · refine jj_s (pc' := 17) rfl rfl ?_
      exact jj_zret rfl rfl (Or.inl rfl) ⟨by simp [isD, bI, Int32.not_le.mpr c2], rfl, rfl⟩
    · refine jj_s (pc' := 13) rfl rfl ?_
      refine jj_s (pc' := 17) rfl rfl ?_
      exact jj_zret rfl rfl (Or.inr rfl) ⟨by simp [isD, bI, Int32.not_lt.mp c1, Int32.not_lt.mp c2], rfl, rfl⟩
/-- a digit's number -/
def dv (c : Int32) : Nat := (c - 48).toNatClampNeg
theorem isD_dv {c : Int32} (h : isD c = true) : c - 48 = nI (dv c) ∧ dv c ≤ 9 ∧ c = nI (dv c + 48) := by
  have h := of_decide_eq_true h
  obtain ⟨j, h1, h2⟩ := nI_of2 (x := c) (M := 57) (n := 57) rfl (fun z => absurd (Int32.lt_of_lt_of_le z (by decide : (0 : Int32) ≤ 48)) (Int32.not_lt.mpr h.1)) h.2
  have h3 : 48 ≤ j := by
    have := h.1
    rw [h2] at this
    exact (nI_leI (a := 48) (b := j) (by omega) (by omega)).mp this
  have e : c - 48 = nI (j - 48) := by rw [h2]; exact pk_sub (a := j) (b := 48) h3
  have e2 : dv c = j - 48 := by unfold dv; rw [e, nI_clamp (by omega)]
  rw [e2]
  exact ⟨e, by omega, by rw [h2]; congr 1; omega⟩
theorem num2 {c : Int32} (h : isD c = true) (d : Nat) : nI d * 10 + c - 48 = nI (10 * d + dv c) := by
  obtain ⟨-, -, g3⟩ := isD_dv h
  generalize dv c = e at g3 ⊢
  subst g3
  show nI d * nI 10 + nI (e + 48) - nI 48 = _
  rw [pk_mul, nI_add, pk_sub (by omega)]
  congr 1
  omega
theorem cH_0 {C : Nat → Int32} {len a : Nat} (h : ¬ cH C len a = 0) : a < len := by
  rcases Nat.lt_or_ge a len with q | q
  · exact q
  · exact absurd (by rw [cH, if_neg (by omega)]) h
theorem isD_lt {C : Nat → Int32} {len a : Nat} (h : isD (cH C len a) = true) : a < len := cH_0 (fun z => by rw [z] at h; exact absurd h (by decide))
def rN (C : Nat → Int32) (len a : Nat) : Option Nat × Nat := if isD (cH C len a) = true then (if isD (cH C len (a + 1)) = true then (some (10 * dv (cH C len a) + dv (cH C len (a + 1))), a + 2) else (some (dv (cH C len a)), a + 1)) else (none, a)
theorem rN_le {C : Nat → Int32} {len a : Nat} : a ≤ (rN C len a).2 ∧ ((rN C len a).2 ≤ len ∨ (rN C len a).2 = a) ∧ ∀ v, (rN C len a).1 = some v → v ≤ 99 := by
  unfold rN
  split
  next h1 =>
    have := isD_lt h1
    have g1 := (isD_dv h1).2.1
    split
    next h2 =>
      have := isD_lt h2
      have g2 := (isD_dv h2).2.1
      exact ⟨by simp, Or.inl (by simp; omega), fun v hv => by cases hv; omega⟩
    next => exact ⟨by simp, Or.inl (by simp; omega), fun v hv => by cases hv; omega⟩
  next => exact ⟨Nat.le_refl _, Or.inr rfl, fun v hv => by cases hv⟩
theorem m1_ne {b : Nat} (h : b < 2147483648) : ¬ nI b = -1 := by
  intro q
  have h1 := nI_pos (n := b) h
  rw [q] at h1
  exact h1 (by decide)
def enN (v : Option Nat) : Int32 := match v with
  | none => -1
  | some v => nI v
set_option maxHeartbeats 4000000 in
set_option maxRecDepth 100000 in
 theorem c_readNumber {G : GC} {B n : Nat} {h : HT} {o len a : Nat} {C : Nat → Int32} {N : Nat} {S : Nat → Int32} {F : Nat → Nat → Int32} (hl : len ≤ 200) (ha : a < 900) : CtJ G B M6_readNumber [.ref (B + o)] n (wX B o len a C N S F h) 0 0 (eqP (some (.int (enN (rN C len a).1))) n (wX B o len (rN C len a).2 C N S F h)) := by
  unfold CtJ
  refine jj_lv (lv' := [some (.ref (B + o)), none]) rfl ?_
  refine jj_s (pc' := 1) rfl rfl ?_
  refine jj_v0 rfl rfl rfl wX_o rfl rfl (c_codeHere hl (by omega)) ?_
  refine jj_t1 rfl rfl rfl rfl rfl (c_isDigit _) ?_
  refine jj_zF 12 rfl rfl (fun c1 => ?_) (fun c1 => ?_)
  · obtain ⟨d1, d2, d3⟩ := isD_dv c1
    refine jj_s (pc' := 13) rfl rfl ?_
    refine jj_v0 rfl rfl rfl wX_o rfl rfl (c_codeHere hl (by omega)) ?_
    refine jj_s (pc' := 18) rfl rfl ?_
    refine jj_s (pc' := 19) rfl rfl ?_
    refine jj_s (pc' := 20) rfl rfl ?_
    refine jj_lv (lv' := [some (.ref (B + o)), some (.int (nI (dv (cH C len a))))]) (by rw [← d1]; rfl) ?_
    refine jj_s (pc' := 21) rfl rfl ?_
    refine jj_s (pc' := 22) rfl rfl ?_
    refine jj_g rfl rfl wX_o rfl ?_
    refine jj_s (pc' := 26) rfl rfl ?_
    refine jj_s (pc' := 27) rfl rfl ?_
    refine jj_tat rfl rfl ?_
    refine jj_s (pc' := 31) rfl rfl ?_
    refine jj_v0 rfl rfl rfl wX_o rfl rfl (c_codeHere hl (by omega)) ?_
    refine jj_t1 rfl rfl rfl rfl rfl (c_isDigit _) ?_
    refine jj_zT 63 rfl rfl (fun c2 => ?_) (fun c2 => ?_)
    · have e : rN C len a = (some (dv (cH C len a)), a + 1) := by rw [rN, if_pos c1, if_neg (by rw [c2]; decide)]
      refine jj_s (pc' := 64) rfl rfl ?_
      exact jj_iret rfl rfl ⟨by rw [e]; rfl, rfl, by rw [e]⟩
    · have e : rN C len a = (some (10 * dv (cH C len a) + dv (cH C len (a + 1))), a + 2) := by rw [rN, if_pos c1, if_pos c2]
      obtain ⟨g1, g2, g3⟩ := isD_dv c2
      refine jj_s (pc' := 41) rfl rfl ?_
      refine jj_s (pc' := 43) rfl rfl ?_
      refine jj_s (pc' := 44) rfl rfl ?_
      refine jj_s (pc' := 45) rfl rfl ?_
      refine jj_v0 rfl rfl rfl wX_o rfl rfl (c_codeHere hl (by omega)) ?_
      refine jj_s (pc' := 49) rfl rfl ?_
      refine jj_s (pc' := 51) rfl rfl ?_
      refine jj_s (pc' := 52) rfl rfl ?_
      refine jj_s (pc' := 53) rfl rfl ?_
      refine jj_lv (lv' := [some (.ref (B + o)), some (.int (nI (10 * dv (cH C len a) + dv (cH C len (a + 1)))))]) (by rw [← num2 c2 (dv (cH C len a))]; rfl) ?_
      refine jj_s (pc' := 54) rfl rfl ?_
      refine jj_s (pc' := 55) rfl rfl ?_
      refine jj_g rfl rfl wX_o rfl ?_
      refine jj_s (pc' := 59) rfl rfl ?_
      refine jj_s (pc' := 60) rfl rfl ?_
      refine jj_tat rfl rfl ?_
      refine jj_s (pc' := 64) rfl rfl ?_
      exact jj_iret rfl rfl ⟨by rw [e]; rfl, rfl, by rw [e]⟩
  · have e : rN C len a = (none, a) := by rw [rN, if_neg (by rw [c1]; decide)]
    refine jj_s (pc' := 11) rfl rfl ?_
    exact jj_iret rfl rfl ⟨by rw [e]; rfl, rfl, by rw [e]⟩
/-- the edges of item t -/
def rE (C : Nat → Int32) (len t : Nat) : Nat → (Nat → Nat → Int32) → Nat → Int32 × (Nat → Nat → Int32) × Nat
  | 0, F, a => (-7, F, a + 1)
  | m + 1, F, a => if cH C len a = 59 then (-7, F, a + 1) else if cH C len a = 60 ∨ cH C len a = 33 then (match (rN C len (a + 1)).1 with
      | none => (nI (a + 1), F, (rN C len (a + 1)).2)
      | some v => if v < t ∧ bt (prd F t) v = false then rE C len t m (ptF F v t (if cH C len a = 60 then 0 else 1)) (rN C len (a + 1)).2 else (nI (a + 1), F, (rN C len (a + 1)).2)) else (nI a, F, a)
set_option maxHeartbeats 4000000 in
set_option maxRecDepth 100000 in
 theorem c_readEdges {G : GC} {B n : Nat} {h : HT} {o len a : Nat} {C : Nat → Int32} {N : Nat} {S : Nat → Int32} {F : Nat → Nat → Int32} (hl : len ≤ 200) (ha : a ≤ 210) {t : Nat} (ht : t < 20) : CtJ G B M6_readEdges [.ref (B + o), .int (nI t)] n (wX B o len a C N S F h) 0 0 (eqP (some (.int (rE C len t 200 F a).1)) n (wX B o len (rE C len t 200 F a).2.2 C N S (rE C len t 200 F a).2.1 h)) := by
  unfold CtJ
  refine jj_lv (lv' := [some (.ref (B + o)), some (.int (nI t)), none, none, none, none, none]) rfl ?_
  refine jj_s (pc' := 1) rfl rfl ?_
  refine jj_s (pc' := 2) rfl rfl ?_
  have L : ∀ m (F : Nat → Nat → Int32) a z1 z2 z3 z4, m ≤ 200 → a ≤ 210 → JJ X0 G B M6_readEdges 2 [some (.ref (B + o)), some (.int (nI t)), some (.int (nI (200 - m))), z1, z2, z3, z4] [] n (wX B o len a C N S F h) 0 0 (eqP (some (.int (rE C len t m F a).1)) n (wX B o len (rE C len t m F a).2.2 C N S (rE C len t m F a).2.1 h)) := by
    intro m
    induction m with
    | zero =>
      intro F a z1 z2 z3 z4 h0 ha
      refine jj_s (pc' := 3) rfl rfl ?_
      refine jj_s (pc' := 6) rfl rfl ?_
      refine jj_icmp_ge 132 rfl rfl (fun c => ?_) (fun c => absurd (by decide) c)
      refine jj_s (pc' := 133) rfl rfl ?_
      refine jj_s (pc' := 134) rfl rfl ?_
      refine jj_g rfl rfl wX_o rfl ?_
      refine jj_s (pc' := 138) rfl rfl ?_
      refine jj_s (pc' := 139) rfl rfl ?_
      refine jj_tat rfl rfl ?_
      refine jj_s (pc' := 144) rfl rfl ?_
      exact jj_iret rfl rfl ⟨rfl, rfl, rfl⟩
    | succ m ih =>
      intro F a z1 z2 z3 z4 h0 ha
      refine jj_s (pc' := 3) rfl rfl ?_
      refine jj_s (pc' := 6) rfl rfl ?_
      refine jj_geN (b := 200) 132 rfl rfl (by omega) (by omega) (fun c => absurd c (by omega)) (fun c => ?_)
      refine jj_s (pc' := 10) rfl rfl ?_
      refine jj_v0 rfl rfl rfl wX_o rfl rfl (c_codeHere hl (by omega)) ?_
      refine jj_s (pc' := 15) rfl rfl ?_
      refine jj_icmp_eq 132 rfl rfl (fun (c1 : cH C len a = 59) => ?_) (fun (c1 : ¬ cH C len a = 59) => ?_)
      · have e : rE C len t (m + 1) F a = (-7, F, a + 1) := by rw [rE, if_pos c1]
        refine jj_s (pc' := 133) rfl rfl ?_
        refine jj_s (pc' := 134) rfl rfl ?_
        refine jj_g rfl rfl wX_o rfl ?_
        refine jj_s (pc' := 138) rfl rfl ?_
        refine jj_s (pc' := 139) rfl rfl ?_
        refine jj_tat rfl rfl ?_
        refine jj_s (pc' := 144) rfl rfl ?_
        exact jj_iret rfl rfl ⟨by rw [e]; rfl, rfl, by rw [e]⟩
      · have G40 : (cH C len a = 60 ∨ cH C len a = 33) → JJ X0 G B M6_readEdges 40 [some (.ref (B + o)), some (.int (nI t)), some (.int (nI (200 - (m + 1)))), some (.int (cH C len a)), z2, z3, z4] [] n (wX B o len a C N S F h) 0 0 (eqP (some (.int (rE C len t (m + 1) F a).1)) n (wX B o len (rE C len t (m + 1) F a).2.2 C N S (rE C len t (m + 1) F a).2.1 h)) := by
          intro c2
          have hal : a < len := cH_0 (fun z => by rw [z] at c2; exact absurd c2 (by decide))
          have e0 := c2
          refine jj_s (pc' := 41) rfl rfl ?_
          refine jj_s (pc' := 42) rfl rfl ?_
          refine jj_g rfl rfl wX_o rfl ?_
          refine jj_s (pc' := 46) rfl rfl ?_
          refine jj_s (pc' := 47) rfl rfl ?_
          refine jj_tat rfl rfl ?_
          refine jj_s (pc' := 51) rfl rfl ?_
          refine jj_g rfl rfl wX_o rfl ?_
          refine jj_s (pc' := 56) rfl rfl ?_
          refine jj_s (pc' := 57) rfl rfl ?_
          refine jj_v0 rfl rfl rfl wX_o rfl rfl (c_readNumber hl (by omega)) ?_
          obtain ⟨q1, q2, q3⟩ := rN_le (C := C) (len := len) (a := a + 1)
          have er : rE C len t (m + 1) F a = (match (rN C len (a + 1)).1 with
            | none => (nI (a + 1), F, (rN C len (a + 1)).2)
            | some v => if v < t ∧ bt (prd F t) v = false then rE C len t m (ptF F v t (if cH C len a = 60 then 0 else 1)) (rN C len (a + 1)).2 else (nI (a + 1), F, (rN C len (a + 1)).2)) := by rw [rE, if_neg c1, if_pos c2]
          rw [er]
          generalize hr1 : (rN C len (a + 1)).1 = r1 at q3 ⊢
          generalize hr2 : (rN C len (a + 1)).2 = a2 at q1 q2 ⊢
          cases r1 with
          | none =>
            refine jj_s (pc' := 62) rfl rfl ?_
            refine jj_s (pc' := 64) rfl rfl ?_
            refine jj_s (pc' := 65) rfl rfl ?_
            refine jj_icmp_eq 78 rfl rfl (fun c3 => ?_) (fun c3 => absurd rfl c3)
            refine jj_s (pc' := 79) rfl rfl ?_
            refine jj_s (pc' := 81) rfl rfl ?_
            refine jj_s (pc' := 83) rfl rfl ?_
            refine jj_if_eq 102 rfl rfl (fun c4 => ?_) (fun c4 => absurd rfl c4)
            refine jj_s (pc' := 104) rfl rfl ?_
            exact jj_iret rfl rfl ⟨rfl, rfl, rfl⟩
          | some v =>
            have hv := q3 v rfl
            refine jj_s (pc' := 62) rfl rfl ?_
            refine jj_s (pc' := 64) rfl rfl ?_
            refine jj_s (pc' := 65) rfl rfl ?_
            refine jj_icmp_eq 78 rfl rfl (fun c3 => absurd c3 (m1_ne (by omega))) (fun c3 => ?_)
            refine jj_lv (lv' := [some (.ref (B + o)), some (.int (nI t)), some (.int (nI (200 - (m + 1)))), some (.int (cH C len a)), some (.int (nI (a + 1))), some (.int (nI v)), z4]) rfl ?_
            refine jj_s (pc' := 70) rfl rfl ?_
            refine jj_s (pc' := 71) rfl rfl ?_
            refine jj_geN 78 rfl rfl (by omega) (by omega) (fun c4 => ?_) (fun c4 => ?_)
            · refine jj_s (pc' := 79) rfl rfl ?_
              refine jj_s (pc' := 81) rfl rfl ?_
              refine jj_s (pc' := 83) rfl rfl ?_
              refine jj_if_eq 102 rfl rfl (fun c5 => ?_) (fun c5 => absurd rfl c5)
              refine jj_s (pc' := 104) rfl rfl ?_
              have e : (if v < t ∧ bt (prd F t) v = false then rE C len t m (ptF F v t (if cH C len a = 60 then 0 else 1)) a2 else (nI (a + 1), F, a2)) = (nI (a + 1), F, a2) := if_neg (fun z => by omega)
              exact jj_iret rfl rfl ⟨by dsimp only; rw [e], rfl, by dsimp only; rw [e]⟩
            · refine jj_s (pc' := 75) rfl rfl ?_
              refine jj_s (pc' := 79) rfl rfl ?_
              refine jj_s (pc' := 81) rfl rfl ?_
              refine jj_s (pc' := 83) rfl rfl ?_
              refine jj_if_eq 102 rfl rfl (fun c5 => absurd c5 (by decide)) (fun c5 => ?_)
              refine jj_s (pc' := 87) rfl rfl ?_
              refine jj_g rfl rfl wX_o rfl ?_
              refine jj_s (pc' := 91) rfl rfl ?_
              refine jj_v1 rfl rfl rfl wQ_o rfl rfl (c_predecessors ht) ?_
              refine jj_s (pc' := 96) rfl rfl ?_
              refine jj_t2 rfl rfl rfl rfl rfl (c_has (by omega)) ?_
              refine jj_zT 105 rfl rfl (fun c6 => ?_) (fun c6 => ?_)
              · have e : (if v < t ∧ bt (prd F t) v = false then rE C len t m (ptF F v t (if cH C len a = 60 then 0 else 1)) a2 else (nI (a + 1), F, a2)) = rE C len t m (ptF F v t (if cH C len a = 60 then 0 else 1)) a2 := if_pos ⟨c4, c6⟩
                dsimp only
                rw [e]
                refine jj_s (pc' := 106) rfl rfl ?_
                refine jj_g rfl rfl wX_o rfl ?_
                refine jj_s (pc' := 111) rfl rfl ?_
                refine jj_s (pc' := 112) rfl rfl ?_
                refine jj_s (pc' := 113) rfl rfl ?_
                refine jj_s (pc' := 115) rfl rfl ?_
                refine jj_icmp_ne 122 rfl rfl (fun (c7 : ¬ cH C len a = 60) => ?_) (fun (c7 : cH C len a = 60) => ?_)
                · rw [if_neg c7]
                  refine jj_s (pc' := 123) rfl rfl ?_
                  refine jj_w3 rfl rfl rfl wQ_o rfl rfl (c_putEdge ht _) ?_
                  first | refine jj_inc rfl rfl ?_ | refine jj_s (pc' := 129) rfl rfl ?_
                  refine jj_s (pc' := 2) rfl rfl ?_
                  refine jj_lv ?_ (ih (ptF F v t 1) a2 (some (.int (cH C len a))) (some (.int (nI (a + 1)))) (some (.int (nI v))) (some (.int 1)) (by omega) (by omega))
                  rw [show 200 - (m + 1) + 1 = 200 - m by omega]; rfl
                · rw [if_pos c7]
                  refine jj_s (pc' := 119) rfl rfl ?_
                  refine jj_s (pc' := 123) rfl rfl ?_
                  refine jj_w3 rfl rfl rfl wQ_o rfl rfl (c_putEdge ht _) ?_
                  first | refine jj_inc rfl rfl ?_ | refine jj_s (pc' := 129) rfl rfl ?_
                  refine jj_s (pc' := 2) rfl rfl ?_
                  refine jj_lv ?_ (ih (ptF F v t 0) a2 (some (.int (cH C len a))) (some (.int (nI (a + 1)))) (some (.int (nI v))) (some (.int 1)) (by omega) (by omega))
                  rw [show 200 - (m + 1) + 1 = 200 - m by omega]; rfl
              · refine jj_s (pc' := 104) rfl rfl ?_
                have e : (if v < t ∧ bt (prd F t) v = false then rE C len t m (ptF F v t (if cH C len a = 60 then 0 else 1)) a2 else (nI (a + 1), F, a2)) = (nI (a + 1), F, a2) := if_neg (fun z => by rw [c6] at z; cases z.2)
                exact jj_iret rfl rfl ⟨by dsimp only; rw [e], rfl, by dsimp only; rw [e]⟩
        refine jj_s (pc' := 19) rfl rfl ?_
        refine jj_v0 rfl rfl rfl wX_o rfl rfl (c_codeHere hl (by omega)) ?_
        refine jj_s (pc' := 23) rfl rfl ?_
        refine jj_s (pc' := 24) rfl rfl ?_
        refine jj_s (pc' := 26) rfl rfl ?_
        refine jj_icmp_eq 40 rfl rfl (fun (c2 : cH C len a = 60) => ?_) (fun (c2 : ¬ cH C len a = 60) => ?_)
        · exact G40 (Or.inl c2)
        · refine jj_s (pc' := 30) rfl rfl ?_
          refine jj_s (pc' := 32) rfl rfl ?_
          refine jj_icmp_eq 40 rfl rfl (fun (c3 : cH C len a = 33) => ?_) (fun (c3 : ¬ cH C len a = 33) => ?_)
          · exact G40 (Or.inr c3)
          · have e : rE C len t (m + 1) F a = (nI a, F, a) := by rw [rE, if_neg c1, if_neg (fun z => z.elim c2 c3)]
            refine jj_s (pc' := 36) rfl rfl ?_
            refine jj_g rfl rfl wX_o rfl ?_
            exact jj_iret rfl rfl ⟨by rw [e], rfl, by rw [e]⟩
  exact L 200 F a none none none none (by omega) ha
/-- one item -/
def rI (C : Nat → Int32) (len N : Nat) (F : Nat → Nat → Int32) (a : Nat) : Int32 × Nat × (Nat → Nat → Int32) × Nat :=
  if N = 20 ∨ isD (cH C len a) = false then (nI a, N, F, a) else if ¬ cH C len (a + 1) = 119 then (nI (a + 1), N, F, a + 1) else
    match (rN C len (a + 2)).1 with
    | none => (nI (a + 2), N, F, (rN C len (a + 2)).2)
    | some v => if 1 ≤ v ∧ v ≤ 20 then ((rE C len N 200 (apF F N (cH C len a - 48) (nI v) 3 0 0) (rN C len (a + 2)).2).1, N + 1, (rE C len N 200 (apF F N (cH C len a - 48) (nI v) 3 0 0) (rN C len (a + 2)).2).2.1, (rE C len N 200 (apF F N (cH C len a - 48) (nI v) 3 0 0) (rN C len (a + 2)).2).2.2) else (nI (a + 2), N, F, (rN C len (a + 2)).2)
set_option maxHeartbeats 4000000 in
set_option maxRecDepth 100000 in
 theorem c_readItem {G : GC} {B n : Nat} {h : HT} {o len a : Nat} {C : Nat → Int32} {N : Nat} {S : Nat → Int32} {F : Nat → Nat → Int32} (hl : len ≤ 200) (ha : a ≤ 201) (hN : N ≤ 20) : CtJ G B M6_readItem [.ref (B + o)] n (wX B o len a C N S F h) 0 0 (eqP (some (.int (rI C len N F a).1)) n (wX B o len (rI C len N F a).2.2.2 C (rI C len N F a).2.1 S (rI C len N F a).2.2.1 h)) := by
  unfold CtJ
  refine jj_lv (lv' := [some (.ref (B + o)), none, none, none]) rfl ?_
  have G20 : (N = 20 ∨ isD (cH C len a) = false) → JJ X0 G B M6_readItem 20 [some (.ref (B + o)), none, none, none] [] n (wX B o len a C N S F h) 0 0 (eqP (some (.int (rI C len N F a).1)) n (wX B o len (rI C len N F a).2.2.2 C (rI C len N F a).2.1 S (rI C len N F a).2.2.1 h)) := by
    intro hc
    have e : rI C len N F a = (nI a, N, F, a) := by rw [rI, if_pos hc]
    refine jj_s (pc' := 21) rfl rfl ?_
    refine jj_g rfl rfl wX_o rfl ?_
    exact jj_iret rfl rfl ⟨by rw [e], rfl, by rw [e]⟩
  refine jj_s (pc' := 1) rfl rfl ?_
  refine jj_g rfl rfl wX_o rfl ?_
  refine jj_v0 rfl rfl rfl wQ_o rfl rfl c_isFull ?_
  refine jj_zF 20 rfl rfl (fun c1 => ?_) (fun c1 => ?_)
  · exact G20 (Or.inl (by have := (nI_leI (a := 20) (b := N) (by omega) (by omega)).mp (of_decide_eq_true c1); omega))
  · have c1 : ¬ N = 20 := fun z => of_decide_eq_false c1 (nI_le (a := 20) (b := N) (by omega) (by omega))
    refine jj_s (pc' := 11) rfl rfl ?_
    refine jj_v0 rfl rfl rfl wX_o rfl rfl (c_codeHere hl (by omega)) ?_
    refine jj_t1 rfl rfl rfl rfl rfl (c_isDigit _) ?_
    refine jj_zF 25 rfl rfl (fun c2 => ?_) (fun c2 => G20 (Or.inr c2))
    have hc : ¬ (N = 20 ∨ isD (cH C len a) = false) := fun z => z.elim c1 (fun z => by rw [c2] at z; cases z)
    refine jj_s (pc' := 26) rfl rfl ?_
    refine jj_v0 rfl rfl rfl wX_o rfl rfl (c_codeHere hl (by omega)) ?_
    refine jj_s (pc' := 31) rfl rfl ?_
    refine jj_s (pc' := 32) rfl rfl ?_
    refine jj_s (pc' := 33) rfl rfl ?_
    refine jj_s (pc' := 34) rfl rfl ?_
    refine jj_s (pc' := 35) rfl rfl ?_
    refine jj_g rfl rfl wX_o rfl ?_
    refine jj_s (pc' := 39) rfl rfl ?_
    refine jj_s (pc' := 40) rfl rfl ?_
    refine jj_tat rfl rfl ?_
    refine jj_s (pc' := 44) rfl rfl ?_
    refine jj_v0 rfl rfl rfl wX_o rfl rfl (c_codeHere hl (by omega)) ?_
    refine jj_s (pc' := 49) rfl rfl ?_
    refine jj_icmp_eq 57 rfl rfl (fun (c3 : cH C len (a + 1) = 119) => ?_) (fun (c3 : ¬ cH C len (a + 1) = 119) => ?_)
    · refine jj_s (pc' := 58) rfl rfl ?_
      refine jj_s (pc' := 59) rfl rfl ?_
      refine jj_g rfl rfl wX_o rfl ?_
      refine jj_s (pc' := 63) rfl rfl ?_
      refine jj_s (pc' := 64) rfl rfl ?_
      refine jj_tat rfl rfl ?_
      refine jj_s (pc' := 68) rfl rfl ?_
      refine jj_g rfl rfl wX_o rfl ?_
      refine jj_s (pc' := 72) rfl rfl ?_
      refine jj_s (pc' := 73) rfl rfl ?_
      refine jj_v0 rfl rfl rfl wX_o rfl rfl (c_readNumber hl (by omega)) ?_
      obtain ⟨q1, q2, q3⟩ := rN_le (C := C) (len := len) (a := a + 2)
      have hal := isD_lt c2
      refine jj_s (pc' := 77) rfl rfl ?_
      refine jj_s (pc' := 78) rfl rfl ?_
      refine jj_s (pc' := 79) rfl rfl ?_
      refine jj_s (pc' := 81) rfl rfl ?_
      refine jj_tn3 rfl rfl rfl rfl rfl (c_isWithin _ _ _) ?_
      refine jj_zF 89 rfl rfl (fun c4 => ?_) (fun c4 => ?_)
      · have c4 := of_decide_eq_true c4
        have hv : ∃ v, (rN C len (a + 2)).1 = some v ∧ 1 ≤ v ∧ v ≤ 20 := by
          cases hr : (rN C len (a + 2)).1 with
          | none => rw [show a + 1 + 1 = a + 2 from rfl, hr] at c4; exact absurd c4.1 (by decide)
          | some v =>
            rw [show a + 1 + 1 = a + 2 from rfl, hr] at c4
            have hv := q3 v hr
            exact ⟨v, rfl, (nI_leI (a := 1) (b := v) (by omega) (by omega)).mp c4.1, (nI_leI (a := v) (b := 20) (by omega) (by omega)).mp c4.2⟩
        obtain ⟨v, hr, v1, v2⟩ := hv
        have e : rI C len N F a = ((rE C len N 200 (apF F N (cH C len a - 48) (nI v) 3 0 0) (rN C len (a + 2)).2).1, N + 1, (rE C len N 200 (apF F N (cH C len a - 48) (nI v) 3 0 0) (rN C len (a + 2)).2).2.1, (rE C len N 200 (apF F N (cH C len a - 48) (nI v) 3 0 0) (rN C len (a + 2)).2).2.2) := by
          rw [rI, if_neg hc, if_neg (fun z => z c3), hr]
          dsimp only
          rw [if_pos ⟨v1, v2⟩]
        rw [e]
        rw [show a + 1 + 1 = a + 2 from rfl, hr]
        generalize (rN C len (a + 2)).2 = a2 at q1 q2 ⊢
        refine jj_s (pc' := 90) rfl rfl ?_
        refine jj_s (pc' := 91) rfl rfl ?_
        refine jj_g rfl rfl wX_o rfl ?_
        refine jj_s (pc' := 95) rfl rfl ?_
        refine jj_s (pc' := 96) rfl rfl ?_
        refine jj_s (pc' := 97) rfl rfl ?_
        refine jj_s (pc' := 98) rfl rfl ?_
        refine jj_s (pc' := 99) rfl rfl ?_
        refine jj_v5 rfl rfl rfl wQ_o rfl rfl (c_append (by omega) _ _ _ _ _) ?_
        refine jj_v1 rfl rfl rfl wX_o rfl rfl (c_readEdges hl (by omega) (by omega)) ?_
        exact jj_iret rfl rfl ⟨rfl, rfl, rfl⟩
      · have c4 := of_decide_eq_false c4
        have e : rI C len N F a = (nI (a + 2), N, F, (rN C len (a + 2)).2) := by
          rw [rI, if_neg hc, if_neg (fun z => z c3)]
          cases hr : (rN C len (a + 2)).1 with
          | none => rfl
          | some v =>
            dsimp only
            rw [if_neg]
            intro z
            have hv := q3 v hr
            rw [show a + 1 + 1 = a + 2 from rfl, hr] at c4
            exact c4 ⟨nI_le (a := 1) (b := v) z.1 (by omega), nI_le (a := v) (b := 20) z.2 (by omega)⟩
        rw [e]
        refine jj_s (pc' := 88) rfl rfl ?_
        exact jj_iret rfl rfl ⟨rfl, rfl, rfl⟩
    · have e : rI C len N F a = (nI (a + 1), N, F, a + 1) := by rw [rI, if_neg hc, if_pos c3]
      rw [e]
      refine jj_s (pc' := 53) rfl rfl ?_
      refine jj_g rfl rfl wX_o rfl ?_
      exact jj_iret rfl rfl ⟨rfl, rfl, rfl⟩
/-- the reading: at most m items more -/
def rdL (C : Nat → Int32) (len : Nat) : Nat → Int32 → Nat → (Nat → Nat → Int32) → Nat → Int32 × Nat × (Nat → Nat → Int32) × Nat
  | 0, r, N, F, a => (r, N, F, a)
  | m + 1, r, N, F, a => if a < len ∧ r = -7 then rdL C len m (rI C len N F a).1 (rI C len N F a).2.1 (rI C len N F a).2.2.1 (rI C len N F a).2.2.2 else (r, N, F, a)
theorem rE_le (C : Nat → Int32) {len : Nat} (t : Nat) : ∀ m F a, a ≤ len + 1 → (rE C len t m F a).2.2 ≤ len + 2 ∧ ((rE C len t m F a).1 = -7 → m = 0 ∨ (rE C len t m F a).2.2 ≤ len ∨ True) := by
  intro m
  induction m with
  | zero => intro F a ha; exact ⟨by simp [rE]; omega, fun _ => Or.inl rfl⟩
  | succ m ih =>
    intro F a ha
    refine ⟨?_, fun _ => Or.inr (Or.inr trivial)⟩
    unfold rE
    split
    next c1 => show a + 1 ≤ len + 2; omega
    next =>
      split
      next c2 =>
        have hal : a < len := cH_0 (fun z => by rw [z] at c2; exact absurd c2 (by decide))
        obtain ⟨q1, q2, q3⟩ := rN_le (C := C) (len := len) (a := a + 1)
        split
        next => show (rN C len (a + 1)).2 ≤ len + 2; omega
        next =>
          split
          next => exact (ih _ _ (by omega)).1
          next => show (rN C len (a + 1)).2 ≤ len + 2; omega
      next => show a ≤ len + 2; omega
theorem rI_le (C : Nat → Int32) {len N : Nat} (F : Nat → Nat → Int32) {a : Nat} (ha : a < len) (hN : N ≤ 20) : (rI C len N F a).2.2.2 ≤ len + 2 ∧ (rI C len N F a).2.1 ≤ 20 := by
  obtain ⟨q1, q2, q3⟩ := rN_le (C := C) (len := len) (a := a + 2)
  unfold rI
  split
  next => exact ⟨by show a ≤ len + 2; omega, hN⟩
  next hc =>
    split
    next => exact ⟨by show a + 1 ≤ len + 2; omega, hN⟩
    next c3 =>
      have hal : a + 1 < len := cH_0 (fun z => by rw [z] at c3; exact c3 (by decide))
      split
      next => exact ⟨by show (rN C len (a + 2)).2 ≤ len + 2; omega, hN⟩
      next =>
        split
        next => exact ⟨(rE_le C N 200 _ _ (by omega)).1, by have : ¬ N = 20 := fun z => hc (Or.inl z); show N + 1 ≤ 20; omega⟩
        next => exact ⟨by show (rN C len (a + 2)).2 ≤ len + 2; omega, hN⟩
def rdS (C : Nat → Int32) (len : Nat) (F : Nat → Nat → Int32) : Int32 × Nat × (Nat → Nat → Int32) × Nat := rdL C len 200 (-7) 0 F 0
set_option maxHeartbeats 4000000 in
set_option maxRecDepth 100000 in
 theorem c_read {G : GC} {B n : Nat} {h : HT} {o len a : Nat} {C : Nat → Int32} {N : Nat} {S : Nat → Int32} {F : Nat → Nat → Int32} (hl : len ≤ 200) : CtJ G B M6_read [.ref (B + o)] n (wX B o len a C N S F h) 0 0 (eqP (some (.int (rdS C len F).1)) n (wX B o len (rdS C len F).2.2.2 C (rdS C len F).2.1 S (rdS C len F).2.2.1 h)) := by
  unfold CtJ
  refine jj_lv (lv' := [some (.ref (B + o)), none, none]) rfl ?_
  refine jj_s (pc' := 1) rfl rfl ?_
  refine jj_g rfl rfl wX_o rfl ?_
  refine jj_w0 rfl rfl rfl wQ_o rfl rfl c_removeItems ?_
  refine jj_s (pc' := 8) rfl rfl ?_
  refine jj_s (pc' := 9) rfl rfl ?_
  refine jj_p rfl rfl rfl rfl wX_o rfl (jj_h (wX_po (len2 := len) (at2 := 0) rfl) ?_)
  refine jj_s (pc' := 14) rfl rfl ?_
  refine jj_s (pc' := 15) rfl rfl ?_
  refine jj_s (pc' := 16) rfl rfl ?_
  refine jj_s (pc' := 17) rfl rfl ?_
  unfold rdS
  have L : ∀ m r N (F : Nat → Nat → Int32) a, m ≤ 200 → N ≤ 20 → a ≤ len + 2 → JJ X0 G B M6_read 17 [some (.ref (B + o)), some (.int r), some (.int (nI (200 - m)))] [] n (wX B o len a C N S F h) 0 0 (eqP (some (.int (rdL C len m r N F a).1)) n (wX B o len (rdL C len m r N F a).2.2.2 C (rdL C len m r N F a).2.1 S (rdL C len m r N F a).2.2.1 h)) := by
    intro m
    induction m with
    | zero =>
      intro r N F a h0 hN ha
      refine jj_s (pc' := 18) rfl rfl ?_
      refine jj_s (pc' := 21) rfl rfl ?_
      refine jj_icmp_ge 52 rfl rfl (fun c => ?_) (fun c => absurd (by decide) c)
      refine jj_s (pc' := 53) rfl rfl ?_
      exact jj_iret rfl rfl ⟨rfl, rfl, rfl⟩
    | succ m ih =>
      intro r N F a h0 hN ha
      refine jj_s (pc' := 18) rfl rfl ?_
      refine jj_s (pc' := 21) rfl rfl ?_
      refine jj_geN (b := 200) 52 rfl rfl (by omega) (by omega) (fun c => absurd c (by omega)) (fun c => ?_)
      have stop : ¬ (a < len ∧ r = -7) → JJ X0 G B M6_read 52 [some (.ref (B + o)), some (.int r), some (.int (nI (200 - (m + 1))))] [] n (wX B o len a C N S F h) 0 0 (eqP (some (.int (rdL C len (m + 1) r N F a).1)) n (wX B o len (rdL C len (m + 1) r N F a).2.2.2 C (rdL C len (m + 1) r N F a).2.1 S (rdL C len (m + 1) r N F a).2.2.1 h)) := by
        intro hc
        have e : rdL C len (m + 1) r N F a = (r, N, F, a) := by rw [rdL, if_neg hc]
        rw [e]
        refine jj_s (pc' := 53) rfl rfl ?_
        exact jj_iret rfl rfl ⟨rfl, rfl, rfl⟩
      refine jj_s (pc' := 25) rfl rfl ?_
      refine jj_g rfl rfl wX_o rfl ?_
      refine jj_s (pc' := 29) rfl rfl ?_
      refine jj_g rfl rfl wX_o rfl ?_
      refine jj_geN 52 rfl rfl (by omega) (by omega) (fun c1 => stop (fun z => by omega)) (fun c1 => ?_)
      refine jj_s (pc' := 36) rfl rfl ?_
      refine jj_s (pc' := 38) rfl rfl ?_
      refine jj_icmp_ne 52 rfl rfl (fun c2 => stop (fun z => c2 z.2)) (fun (c2 : r = -7) => ?_)
      have e : rdL C len (m + 1) r N F a = rdL C len m (rI C len N F a).1 (rI C len N F a).2.1 (rI C len N F a).2.2.1 (rI C len N F a).2.2.2 := by rw [rdL, if_pos ⟨c1, c2⟩]
      rw [e]
      refine jj_s (pc' := 42) rfl rfl ?_
      refine jj_v0 rfl rfl rfl wX_o rfl rfl (c_readItem hl (by omega) hN) ?_
      refine jj_s (pc' := 46) rfl rfl ?_
      first | refine jj_inc rfl rfl ?_ | refine jj_s (pc' := 49) rfl rfl ?_
      refine jj_s (pc' := 17) rfl rfl ?_
      obtain ⟨w1, w2⟩ := rI_le C F c1 hN
      refine jj_lv ?_ (ih _ _ _ _ (by omega) w2 w1)
      rw [show 200 - (m + 1) + 1 = 200 - m by omega]; rfl
  exact L 200 (-7) 0 F 0 (by omega) (by omega) (by omega)
set_option maxHeartbeats 4000000 in
set_option maxRecDepth 100000 in
 theorem c_tappend {G : GC} {B n : Nat} {h : HT} {o len a : Nat} {C : Nat → Int32} {N : Nat} {S : Nat → Int32} {F : Nat → Nat → Int32} (hl : len < 200) (x : Int32) : CtJ G B M6_append [.ref (B + o), .int x] n (wX B o len a C N S F h) 0 0 (eqP none n (wX B o (len + 1) a (upd C len x) N S F h)) := by
  unfold CtJ
  refine jj_lv (lv' := [some (.ref (B + o)), some (.int x)]) rfl ?_
  refine jj_s (pc' := 1) rfl rfl ?_
  refine jj_g rfl rfl wX_o rfl ?_
  refine jj_s (pc' := 5) rfl rfl ?_
  refine jj_g rfl rfl wX_o rfl ?_
  refine jj_s (pc' := 9) rfl rfl ?_
  refine jj_iastN rfl wX_c hl rfl (jj_h wX_pc ?_)
  refine jj_s (pc' := 11) rfl rfl ?_
  refine jj_s (pc' := 12) rfl rfl ?_
  refine jj_g rfl rfl wX_o rfl ?_
  refine jj_s (pc' := 16) rfl rfl ?_
  refine jj_s (pc' := 17) rfl rfl ?_
  refine jj_p rfl rfl rfl rfl wX_o rfl (jj_h (wX_po (len2 := len + 1) (at2 := a) ?_) ?_)
  · show ob 6 [.int (nI len + Int32.ofInt 1), .ref (B + (o + 1)), .ref (B + (o + 15)), .int (nI a)] = ob 6 [.int (nI (len + 1)), .ref (B + (o + 1)), .ref (B + (o + 15)), .int (nI a)]
    rw [show nI len + Int32.ofInt 1 = nI (len + 1) from nI_1 len]
  · exact jj_vret rfl rfl ⟨rfl, rfl, rfl⟩
