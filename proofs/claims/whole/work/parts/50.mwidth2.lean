/-- the reference's search -/
def MI (X : Nat → Nat → Bool) (f N : Nat) (pv : Nat → Option Nat) (t : Nat) (seen : Int32) (many : Nat) (ws rho : Nat → Nat) : Prop :=
  (ws 0 = f ∧ 1 ≤ many ∧ many ≤ 20) ∧ (∀ b, bt seen b = true → b < N ∧ X (ws (rho b)) b = true ∧ rho b < many ∧ ∃ q, 1 ≤ q ∧ q < many ∧ pv b = some (ws q)) ∧ (∀ q, 1 ≤ q → q < many → ∃ b, bt seen b = true ∧ pv b = some (ws q) ∧ rho b < q) ∧ (∀ q q', q < q' → q' < many → ws q ≠ ws q') ∧ ∀ q b, q < t → X (ws q) b = true → bt seen b = true
def MA (N : Nat) (pv : Nat → Option Nat) (seen : Int32) (many : Nat) (ws rho : Nat → Nat) (A : Nat → Nat → Int32) : Prop := (∀ q, q < many → A 12 q = nI (ws q)) ∧ (∀ b, bt seen b = true → A 11 b = nI (ws (rho b))) ∧ ∀ i, i < N → A 10 i = enc (pv i)
theorem MI_op {op : Int32} {bf : Nat → Int32} {f N : Nat} {nx pv : Nat → Option Nat} {t : Nat} {seen : Int32} {many : Nat} {ws rho : Nat → Nat} (hM : Mt (Xc op bf) nx pv) (hfo : bt op f = true) (h : MI (Xc op bf) f N pv t seen many ws rho) {q : Nat} (hq : q < many) : bt op (ws q) = true := by
  rcases Nat.eq_zero_or_pos q with e | e
  · rw [e, h.1.1]; exact hfo
  · obtain ⟨b, b1, b2, b3⟩ := h.2.2.1 q e hq
    exact (Xc_t.mp (hM.1 _ _ b2).1).1
/-- one more is seen -/
theorem MI_put {op : Int32} {bf : Nat → Int32} {f N : Nat} {nx pv : Nat → Option Nat} {t : Nat} {seen : Int32} {many : Nat} {ws rho : Nat → Nat} (hN : N ≤ 20) (hop : ∀ i, bt op i = true → i < N) (hM : Mt (Xc op bf) nx pv) (hfo : bt op f = true) (hf : nx f = none) (h : MI (Xc op bf) f N pv t seen many ws rho) (ht : t < many) {b p : Nat} (hb : b < N) (hX : Xc op bf (ws t) b = true) (hs : bt seen b = false) (hp : pv b = some p) : many < 20 ∧ MI (Xc op bf) f N pv t (seen ||| bit b) (many + 1) (va_up ws many p) (va_up rho b t) := by
  have h' := h
  obtain ⟨⟨a1, a2, a3⟩, a4, a5, a6, a7⟩ := h
  have hpop := (Xc_t.mp (hM.1 _ _ hp).1).1
  have hnew : ∀ q, q < many → ws q ≠ p := by
    intro q hq e
    rcases Nat.eq_zero_or_pos q with z | z
    · rw [z, a1] at e
      have := (hM.1 _ _ hp).2
      rw [← e, hf] at this
      cases this
    · obtain ⟨b', b1, b2, _⟩ := a5 q z hq
      rw [e] at b2
      have e1 := (hM.1 _ _ b2).2
      have e2 := (hM.1 _ _ hp).2
      rw [e1] at e2
      cases e2
      rw [hs] at b1
      cases b1
  have old : ∀ b', bt seen b' = true → b' ≠ b := fun b' q e => by rw [e, hs] at q; cases q
  have hws : ∀ q, q < many → va_up ws many p q = ws q := fun q hq => va_up_n (by omega)
  have inj : ∀ q q', q < q' → q' < many + 1 → va_up ws many p q ≠ va_up ws many p q' := by
    intro q q' h1 h2
    rw [hws q (by omega)]
    by_cases e : q' = many
    · rw [e, va_up_s]; exact hnew q (by omega)
    · rw [hws q' (by omega)]; exact a6 q q' h1 (by omega)
  refine ⟨?_, ⟨⟨by rw [hws 0 (by omega)]; exact a1, by omega, ?_⟩, fun b' hb' => ?_, fun q q1 q2 => ?_, inj, fun q b' hq hx => ?_⟩⟩
  · rcases Nat.lt_or_ge many 20 with z | z
    · exact z
    · exfalso
      have : many = 20 := by omega
      subst this
      obtain ⟨i, j, h1, h2, h3⟩ := pigeon 20 (va_up ws 20 p) (fun i hi => by
        by_cases e : i = 20
        · rw [e, va_up_s]; have := hop p hpop; omega
        · rw [hws i (by omega)]; have := hop _ (MI_op hM hfo h' (show i < 20 by omega)); omega)
      exact inj i j h1 (by omega) h3
  · rcases Nat.lt_or_ge many 20 with z | z
    · omega
    · exfalso
      have : many = 20 := by omega
      subst this
      obtain ⟨i, j, h1, h2, h3⟩ := pigeon 20 (va_up ws 20 p) (fun i hi => by
        by_cases e : i = 20
        · rw [e, va_up_s]; have := hop p hpop; omega
        · rw [hws i (by omega)]; have := hop _ (MI_op hM hfo h' (show i < 20 by omega)); omega)
      exact inj i j h1 (by omega) h3
  · rw [b_put (by omega), Bool.or_eq_true, decide_eq_true_eq] at hb'
    rcases hb' with z | rfl
    · obtain ⟨c1, c2, c3, q, c4, c5, c6⟩ := a4 b' z
      rw [va_up_n (old b' z), hws _ c3]
      exact ⟨c1, c2, by omega, q, c4, by omega, by rw [hws q c5]; exact c6⟩
    · rw [va_up_s, hws t ht]
      exact ⟨hb, hX, by omega, many, a2, by omega, by rw [va_up_s]; exact hp⟩
  · by_cases e : q = many
    · subst e
      exact ⟨b, by rw [b_put (by omega), decide_eq_true (rfl : b = b), Bool.or_true], by rw [va_up_s]; exact hp, by rw [va_up_s]; exact ht⟩
    · obtain ⟨b', b1, b2, b3⟩ := a5 q q1 (by omega)
      exact ⟨b', by rw [b_put (by omega), b1]; rfl, by rw [hws q (by omega)]; exact b2, by rw [va_up_n (old b' b1)]; exact b3⟩
  · rw [hws q (by omega)] at hx
    rw [b_put (by omega), a7 q b' hq hx]; rfl
set_option maxHeartbeats 4000000 in
set_option maxRecDepth 100000 in
 theorem c9_isMatched {G : GC} {B n m : Nat} {A : Nat → Nat → Int32} {Wy : Nat → Int64} {V : Nat → Int32} {h : HT} {N : Nat} {S : Nat → Int32} {F : Nat → Nat → Int32} {op : Int32} {bf : Nat → Int32} {nx pv : Nat → Option Nat} {f : Nat} (hN : N ≤ 20) (hm : MW N S F (A 0)) (hop : ∀ i, bt op i = (decide (i < N) && opF F i)) (h7 : ∀ i, i < N → A 7 i = bf i) (hA : ∀ i, i < N → A 10 i = enc (pv i)) (hM : Mt (Xc op bf) nx pv) (hf : nx f = none) (hfo : bt op f = true) : CtJ G B M9_isMatched [.ref (B + m), .int (nI f)] n (wM B m A Wy V h) 0 0 (fun r2 n2 h2 => n2 = n ∧ ∃ (b : Bool) (nx' pv' : Nat → Option Nat) (A' : Nat → Nat → Int32), r2 = some (.int (bI b)) ∧ h2 = wM B m A' Wy V h ∧ (∀ j, j ≠ 10 → j ≠ 11 → j ≠ 12 → A' j = A j) ∧ (∀ i, i < N → A' 10 i = enc (pv' i)) ∧ Mt (Xc op bf) nx' pv' ∧ (b = true → ∀ a, nx' a ≠ none ↔ (nx a ≠ none ∨ a = f)) ∧ (b = false → nx' = nx ∧ ¬ Cv (Xc op bf) (fun a => nx a ≠ none ∨ a = f))) := by
  have hop' : ∀ i, bt op i = true → i < N := fun i hi => by rw [hop, Bool.and_eq_true, decide_eq_true_eq] at hi; exact hi.1
  have hfN := hop' f hfo
  unfold CtJ
  refine jj_lv (lv' := [some (.ref (B + m)), some (.int (nI f)), none, none, none, none, none, none]) rfl ?_
  refine jj_s (pc' := 1) rfl rfl ?_
  refine jj_s (pc' := 2) rfl rfl ?_
  refine jj_s (pc' := 3) rfl rfl ?_
  refine jj_s (pc' := 4) rfl rfl ?_
  refine jj_s (pc' := 5) rfl rfl ?_
  refine jj_g rfl rfl wM_o rfl ?_
  refine jj_s (pc' := 9) rfl rfl ?_
  refine jj_s (pc' := 10) rfl rfl ?_
  refine jj_mst (i := 0) 20 rfl rfl (by decide) (by decide) ?_
  refine jj_s (pc' := 12) rfl rfl ?_
  refine jj_s (pc' := 14) rfl rfl ?_
  have L1 : ∀ d t seen many (ws rho : Nat → Nat) (A2 : Nat → Nat → Int32) z5 z6 z7, t ≤ many → 21 ≤ t + d → MI (Xc op bf) f N pv t seen many ws rho → MA N pv seen many ws rho A2 → (∀ j, j ≠ 10 → j ≠ 11 → j ≠ 12 → A2 j = A j) → JJ X0 G B M9_isMatched 14 [some (.ref (B + m)), some (.int (nI f)), some (.int (nI many)), some (.int seen), some (.int (nI t)), z5, z6, z7] [] n (wM B m A2 Wy V h) 0 0 (fun r2 n2 h2 => n2 = n ∧ ∃ (b : Bool) (nx' pv' : Nat → Option Nat) (A' : Nat → Nat → Int32), r2 = some (.int (bI b)) ∧ h2 = wM B m A' Wy V h ∧ (∀ j, j ≠ 10 → j ≠ 11 → j ≠ 12 → A' j = A j) ∧ (∀ i, i < N → A' 10 i = enc (pv' i)) ∧ Mt (Xc op bf) nx' pv' ∧ (b = true → ∀ a, nx' a ≠ none ↔ (nx a ≠ none ∨ a = f)) ∧ (b = false → nx' = nx ∧ ¬ Cv (Xc op bf) (fun a => nx a ≠ none ∨ a = f))) := by
    intro d
    induction d with
    | zero => intro t seen many ws rho A2 z5 z6 z7 h1 h2 hI; have := hI.1.2.2; exact absurd h2 (by omega)
    | succ d ih =>
      intro t seen many ws rho A2 z5 z6 z7 h1 h2 hI hMA hA2
      have hI' := hI
      obtain ⟨⟨a1, a2, a3⟩, a4, a5, a6, a7⟩ := hI
      refine jj_s (pc' := 16) rfl rfl ?_
      refine jj_s (pc' := 17) rfl rfl ?_
      refine jj_geN 154 rfl rfl (by omega) (by omega) (fun c => ?_) (fun c => ?_)
      · refine jj_s (pc' := 155) rfl rfl ?_
        refine jj_zret rfl rfl (Or.inl rfl) ⟨rfl, false, nx, pv, A2, rfl, rfl, hA2, hMA.2.2, hM, fun z => (by cases z), fun _ => ⟨rfl, ?_⟩⟩
        refine hall (Rd := fun b => bt seen b = true) (fun a b hX => ⟨by have := hop' a (Xc_t.mp hX).1; omega, by have := hop' b (Xc_t.mp hX).2.1; omega⟩) (by omega) hM hf (fun i hi => ?_) (fun a b ha hX => ?_)
        · obtain ⟨_, _, _, q, _, _, e⟩ := a4 i hi
          rw [e]; simp
        · rcases ha with z | ⟨j, j1, j2⟩
          · rw [z, ← a1] at hX; exact a7 0 b (by omega) hX
          · obtain ⟨_, _, _, q, _, q2, e⟩ := a4 j j1
            rw [e] at j2
            cases j2
            exact a7 q b (by omega) hX
      · refine jj_s (pc' := 21) rfl rfl ?_
        refine jj_g rfl rfl wM_o rfl ?_
        refine jj_s (pc' := 26) rfl rfl ?_
        refine jj_mld 20 rfl rfl (by decide) (by first | assumption | omega) ?_
        rw [hMA.1 t c]
        have hwt := MI_op hM hfo hI' c
        have hwtN := hop' _ hwt
        refine jj_s (pc' := 29) rfl rfl ?_
        refine jj_s (pc' := 30) rfl rfl ?_
        refine jj_s (pc' := 32) rfl rfl ?_
        have L2 : ∀ e b seen many (ws rho : Nat → Nat) (A2 : Nat → Nat → Int32) z7 x, x = ws t → b ≤ N → N + 1 ≤ b + e → t < many → MI (Xc op bf) f N pv t seen many ws rho → (∀ b', b' < b → (Xc op bf) (ws t) b' = true → bt seen b' = true) → MA N pv seen many ws rho A2 → (∀ j, j ≠ 10 → j ≠ 11 → j ≠ 12 → A2 j = A j) → JJ X0 G B M9_isMatched 32 [some (.ref (B + m)), some (.int (nI f)), some (.int (nI many)), some (.int seen), some (.int (nI t)), some (.int (nI x)), some (.int (nI b)), z7] [] n (wM B m A2 Wy V h) 0 0 (fun r2 n2 h2 => n2 = n ∧ ∃ (b : Bool) (nx' pv' : Nat → Option Nat) (A' : Nat → Nat → Int32), r2 = some (.int (bI b)) ∧ h2 = wM B m A' Wy V h ∧ (∀ j, j ≠ 10 → j ≠ 11 → j ≠ 12 → A' j = A j) ∧ (∀ i, i < N → A' 10 i = enc (pv' i)) ∧ Mt (Xc op bf) nx' pv' ∧ (b = true → ∀ a, nx' a ≠ none ↔ (nx a ≠ none ∨ a = f)) ∧ (b = false → nx' = nx ∧ ¬ Cv (Xc op bf) (fun a => nx a ≠ none ∨ a = f))) := by
          intro e
          induction e with
          | zero => intro b seen many ws rho A2 z7 x _ g1 g2; exact absurd g2 (by omega)
          | succ e ih2 =>
            intro b seen many ws rho A2 z7 x hx g1 g2 htm hI hcl hMA hA2
            have hwt := MI_op hM hfo hI htm
            have hwtN := hop' _ hwt
            have hm2 : MW N S F (A2 0) := by rw [hA2 0 (by decide) (by decide) (by decide)]; exact hm
            have hw0 := hm2.1
            subst hx
            refine jj_s (pc' := 34) rfl rfl ?_
            refine jj_s (pc' := 35) rfl rfl ?_
            refine jj_g rfl rfl wM_o rfl ?_
            refine jj_s (pc' := 39) rfl rfl ?_
            refine jj_m0 hw0 rfl ?_
            refine jj_geN 148 rfl rfl (by omega) (by omega) (fun cb => ?_) (fun cb => ?_)
            · first | refine jj_inc rfl rfl ?_ | refine jj_s (pc' := 151) rfl rfl ?_
              refine jj_s (pc' := 14) rfl rfl ?_
              refine ih (t + 1) seen many ws rho A2 _ _ _ (by omega) (by omega) ⟨hI.1, hI.2.1, hI.2.2.1, hI.2.2.2.1, fun q b' hq hX => ?_⟩ hMA hA2
              by_cases eq : q = t
              · rw [eq] at hX
                exact hcl b' (by have := hop' b' (Xc_t.mp hX).2.1; omega) hX
              · exact hI.2.2.2.2 q b' (by omega) hX
            · have no : ((Xc op bf) (ws t) b = true → bt seen b = true) → JJ X0 G B M9_isMatched 81 [some (.ref (B + m)), some (.int (nI f)), some (.int (nI many)), some (.int seen), some (.int (nI t)), some (.int (nI (ws t))), some (.int (nI b)), z7] [] n (wM B m A2 Wy V h) 0 0 (fun r2 n2 h2 => n2 = n ∧ ∃ (b : Bool) (nx' pv' : Nat → Option Nat) (A' : Nat → Nat → Int32), r2 = some (.int (bI b)) ∧ h2 = wM B m A' Wy V h ∧ (∀ j, j ≠ 10 → j ≠ 11 → j ≠ 12 → A' j = A j) ∧ (∀ i, i < N → A' 10 i = enc (pv' i)) ∧ Mt (Xc op bf) nx' pv' ∧ (b = true → ∀ a, nx' a ≠ none ↔ (nx a ≠ none ∨ a = f)) ∧ (b = false → nx' = nx ∧ ¬ Cv (Xc op bf) (fun a => nx a ≠ none ∨ a = f))) := by
                intro hno
                refine jj_s (pc' := 82) rfl rfl ?_
                refine jj_s (pc' := 84) rfl rfl ?_
                refine jj_s (pc' := 86) rfl rfl ?_
                refine jj_if_eq 142 rfl rfl (fun _ => ?_) (fun c3 => absurd rfl c3)
                first | refine jj_inc rfl rfl ?_ | refine jj_s (pc' := 145) rfl rfl ?_
                refine jj_s (pc' := 32) rfl rfl ?_
                refine ih2 (b + 1) seen many ws rho A2 _ (ws t) rfl (by omega) (by omega) htm hI (fun b' hb' hX => ?_) hMA hA2
                by_cases eb : b' = b
                · rw [eb] at hX ⊢; exact hno hX
                · exact hcl b' (by omega) hX
              have hob : bt op b = opF F b := by rw [hop, decide_eq_true cb]; rfl
              refine jj_s (pc' := 44) rfl rfl ?_
              refine jj_s (pc' := 46) rfl rfl ?_
              refine jj_v1 rfl rfl rfl wM_o rfl rfl (c9_hasEnded (by omega)) ?_
              rw [(hm2.2.2.1 b cb).2.2.1]
              refine jj_zF 81 rfl rfl (fun c1 => no (fun hX => ?_)) (fun c1 => ?_)
              · have := (Xc_t.mp hX).2.1
                rw [hob] at this
                unfold opF at this
                rw [c1] at this; cases this
              · have c1 : bt op b = true := by rw [hob]; unfold opF; rw [c1]; rfl
                refine jj_s (pc' := 53) rfl rfl ?_
                refine jj_g rfl rfl wM_o rfl ?_
                refine jj_s (pc' := 58) rfl rfl ?_
                refine jj_mld 20 rfl rfl (by decide) (by first | assumption | omega) ?_
                refine jj_s (pc' := 61) rfl rfl ?_
                refine jj_s (pc' := 62) rfl rfl ?_
                refine jj_s (pc' := 63) rfl rfl ?_
                refine jj_s (pc' := 64) rfl rfl ?_
                refine jj_s (pc' := 65) rfl rfl ?_
                rw [hA2 7 (by decide) (by decide) (by decide), h7 b cb]
                refine jj_st (st' := [.int 1, .int (bI (bt (bf b) (ws t)))]) (by rw [← b_has (show ws t < 32 by omega)]; rfl) ?_
                refine jj_icmp_ne 81 rfl rfl (fun c2 => no (fun hX => absurd (by rw [(Xc_t.mp hX).2.2]; rfl) c2)) (fun c2 => ?_)
                have c2 := bI_1.mp c2
                have hX : (Xc op bf) (ws t) b = true := Xc_t.mpr ⟨hwt, c1, c2⟩
                refine jj_s (pc' := 69) rfl rfl ?_
                refine jj_s (pc' := 71) rfl rfl ?_
                refine jj_s (pc' := 72) rfl rfl ?_
                refine jj_s (pc' := 73) rfl rfl ?_
                refine jj_s (pc' := 74) rfl rfl ?_
                refine jj_st (st' := [.int (bI (bt seen b))]) (by rw [← b_has (show b < 32 by omega)]; rfl) ?_
                refine jj_zF 81 rfl rfl (fun c3 => no (fun _ => c3)) (fun c3 => ?_)
                refine jj_s (pc' := 78) rfl rfl ?_
                refine jj_s (pc' := 82) rfl rfl ?_
                refine jj_s (pc' := 84) rfl rfl ?_
                refine jj_s (pc' := 86) rfl rfl ?_
                refine jj_if_eq 142 rfl rfl (fun c4 => absurd c4 (by decide)) (fun _ => ?_)
                refine jj_s (pc' := 90) rfl rfl ?_
                refine jj_s (pc' := 91) rfl rfl ?_
                refine jj_s (pc' := 93) rfl rfl ?_
                refine jj_s (pc' := 94) rfl rfl ?_
                refine jj_s (pc' := 95) rfl rfl ?_
                refine jj_s (pc' := 96) rfl rfl ?_
                refine jj_s (pc' := 97) rfl rfl ?_
                refine jj_g rfl rfl wM_o rfl ?_
                refine jj_s (pc' := 102) rfl rfl ?_
                refine jj_s (pc' := 104) rfl rfl ?_
                refine jj_mst 20 rfl rfl (by decide) (by first | assumption | omega) ?_
                refine jj_s (pc' := 106) rfl rfl ?_
                refine jj_g rfl rfl wM_o rfl ?_
                refine jj_s (pc' := 111) rfl rfl ?_
                refine jj_mld 20 rfl rfl (by decide) (by first | assumption | omega) ?_
                refine jj_s (pc' := 114) rfl rfl ?_
                rw [show uF A2 11 b (nI (ws t)) 10 = A2 10 from uF_j _ _ _ _ (by decide), hMA.2.2 b cb]
                have old : ∀ b', bt seen b' = true → b' ≠ b := fun b' q z => by rw [z, c3] at q; cases q
                cases hp : pv b with
                | none =>
                  refine jj_icmp_ne 126 rfl rfl (fun c4 => absurd rfl c4) (fun _ => ?_)
                  have hO : ∀ i, (bt seen i = true ∨ i = b) → i < N ∧ uF A2 11 b (nI (ws t)) 11 i = nI (ws (va_up rho b t i)) ∧ (Xc op bf) (ws (va_up rho b t i)) i = true ∧ (ws (va_up rho b t i) = f ∨ ∃ j, (bt seen j = true ∨ j = b) ∧ va_up rho b t j < va_up rho b t i ∧ pv j = some (ws (va_up rho b t i))) := by
                    intro i hi
                    have par : ∀ q, q < many → q ≤ many → ws q = f ∨ ∃ j, (bt seen j = true ∨ j = b) ∧ va_up rho b t j < q ∧ pv j = some (ws q) := by
                      intro q hq _
                      rcases Nat.eq_zero_or_pos q with z | z
                      · rw [z]; exact Or.inl hI.1.1
                      · obtain ⟨j, j1, j2, j3⟩ := hI.2.2.1 q z hq
                        exact Or.inr ⟨j, Or.inl j1, by rw [va_up_n (old j j1)]; exact j3, j2⟩
                    by_cases e : i = b
                    · subst e
                      rw [va_up_s, uF_s]
                      exact ⟨cb, rfl, hX, par t htm (by omega)⟩
                    · have hi := hi.resolve_right e
                      obtain ⟨d1, d2, d3, _⟩ := hI.2.1 i hi
                      rw [va_up_n e, uF_i _ _ _ _ e]
                      exact ⟨d1, hMA.2.1 i hi, d2, par _ d3 (by omega)⟩
                  refine jj_s (pc' := 118) rfl rfl ?_
                  refine jj_s (pc' := 120) rfl rfl ?_
                  refine jj_s (pc' := 121) rfl rfl ?_
                  refine jj_vp2 rfl rfl rfl wM_o rfl rfl (c9_changePartners (Rd := fun i => bt seen i = true ∨ i = b) (og := fun i => ws (va_up rho b t i)) (rho := va_up rho b t) (l := b) (f := f) (nx := nx) (pv := pv) (op := op) (bf := bf) hN hw0 hop' hM hf hfN hO (fun i hi => by rw [uF_j _ _ _ _ (by decide)]; exact hMA.2.2 i hi) (Or.inr rfl) (by rw [va_up_s]; have := hI.1.2.2; omega) hp) (fun r n' h' q => ?_)
                  obtain ⟨rfl, rfl, A', rfl, hA', hP'⟩ := q
                  obtain ⟨p1, p2⟩ := pa_found (Rd := fun i => bt seen i = true ∨ i = b) (og := fun i => ws (va_up rho b t i)) (rho := va_up rho b t) (l := b) hM hf (fun i hi => (hO i hi).2.2) (Or.inr rfl) (by rw [va_up_s]; have := hI.1.2.2; omega) hp
                  refine jj_s (pc' := 125) rfl rfl ?_
                  exact jj_zret rfl rfl (Or.inr rfl) ⟨rfl, true, _, _, A', rfl, rfl, fun j h10 h11 h12 => by rw [hA' j h10, uF_j _ _ _ _ h11]; exact hA2 j h10 h11 h12, hP', p1, fun _ => p2, fun z => (by cases z)⟩
                | some p =>
                  have hpN := hop' p (Xc_t.mp (hM.1 _ _ hp).1).1
                  obtain ⟨hm20, hI2⟩ := MI_put hN hop' hM hfo hf hI htm cb hX c3 hp
                  refine jj_icmp_ne 126 rfl rfl (fun _ => ?_) (fun c4 => absurd c4 (enc_ne (b := p) (by omega)))
                  refine jj_s (pc' := 127) rfl rfl ?_
                  refine jj_g rfl rfl wM_o rfl ?_
                  refine jj_s (pc' := 131) rfl rfl ?_
                  refine jj_s (pc' := 132) rfl rfl ?_
                  refine jj_g rfl rfl wM_o rfl ?_
                  refine jj_s (pc' := 137) rfl rfl ?_
                  refine jj_mld 20 rfl rfl (by decide) (by first | assumption | omega) ?_
                  rw [show uF A2 11 b (nI (ws t)) 10 = A2 10 from uF_j _ _ _ _ (by decide), hMA.2.2 b cb, hp]
                  refine jj_mst (j := 12) (i := many) 20 rfl rfl (by decide) (by omega) ?_
                  first | refine jj_inc rfl rfl ?_ | refine jj_s (pc' := 142) rfl rfl ?_
                  first | refine jj_inc rfl rfl ?_ | refine jj_s (pc' := 145) rfl rfl ?_
                  refine jj_s (pc' := 32) rfl rfl ?_
                  refine ih2 (b + 1) (seen ||| bit b) (many + 1) (va_up ws many p) (va_up rho b t) _ _ (ws t) (va_up_n (by omega)).symm (by omega) (by omega) (by omega) hI2 (fun b' hb' hX' => ?_) ⟨fun q hq => ?_, fun b' hb' => ?_, fun i hi => ?_⟩ (fun j h10 h11 h12 => by rw [uF_j _ _ _ _ h12, uF_j _ _ _ _ h11]; exact hA2 j h10 h11 h12)
                  · rw [va_up_n (by omega : t ≠ many)] at hX'
                    rw [b_put (by omega)]
                    by_cases eb : b' = b
                    · rw [decide_eq_true eb, Bool.or_true]
                    · rw [hcl b' (by omega) hX']; rfl
                  · by_cases eq : q = many
                    · subst eq; rw [uF_s, va_up_s]; rfl
                    · rw [uF_i _ _ _ _ eq, uF_j _ _ _ _ (by decide), va_up_n eq]
                      exact hMA.1 q (by omega)
                  · rw [uF_j _ _ _ _ (by decide)]
                    rw [b_put (by omega), Bool.or_eq_true, decide_eq_true_eq] at hb'
                    by_cases eb : b' = b
                    · subst eb; rw [uF_s, va_up_s, va_up_n (by omega)]
                    · have hb' := hb'.resolve_right eb
                      have := (hI.2.1 b' hb').2.2.1
                      rw [uF_i _ _ _ _ eb, va_up_n eb, va_up_n (by omega)]
                      exact hMA.2.1 b' hb'
                  · rw [uF_j _ _ _ _ (by decide), uF_j _ _ _ _ (by decide)]
                    exact hMA.2.2 i hi
        exact L2 (N + 1) 0 seen many ws rho A2 _ (ws t) rfl (by omega) (by omega) c hI' (fun b' hb' => absurd hb' (by omega)) hMA hA2
  refine L1 21 0 0 1 (fun _ => f) (fun _ => 0) _ _ _ _ (by omega) (by omega) ⟨⟨rfl, by omega, by omega⟩, fun b hb => (by rw [b_0] at hb; cases hb), fun q q1 q2 => (by omega), fun q q' q1 q2 => (by omega), fun q b hq => (by omega)⟩ ⟨fun q hq => ?_, fun b hb => (by rw [b_0] at hb; cases hb), fun i hi => (by rw [uF_j _ _ _ _ (by decide)]; exact hA i hi)⟩ (fun j _ _ h12 => uF_j _ _ _ _ h12)
  have : q = 0 := by omega
  subst this
  exact uF_s _ _ _ _
