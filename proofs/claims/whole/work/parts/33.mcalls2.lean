/-! the reference's calls that settle -/
theorem jj_mono {X : State → Prop} {G : GC} {B : Nat} {y : MT} {pc : Nat} {lv : List (Option Value)} {st : List Value} {n : Nat} {h : HT} {kc ks : Nat} {post post' : Option Value → Nat → HT → Prop} (k : JJ X G B y pc lv st n h kc ks post) (hp : ∀ r n2 h2, post r n2 h2 → post' r n2 h2) : JJ X G B y pc lv st n h kc ks post' := by
  intro p l e R s m args below meth c H locs cells slots ls mc ms C P S L k1 k2 k3 k4 T hT X1
  obtain ⟨t, a, o, h1, h2, ⟨r, n2, hh, e1, q, rest⟩, h4⟩ := k p l e R s m args below meth c H locs cells slots ls mc ms C P S L k1 k2 k3 k4 T hT X1
  exact ⟨t, a, o, h1, h2, ⟨r, n2, hh, e1, hp _ _ _ q, rest⟩, h4⟩
def sN (f : Nat → Nat) : Nat → Nat
  | 0 => 0
  | k + 1 => sN f k + f k
theorem sN_add (f g : Nat → Nat) (k : Nat) : sN (fun i => f i + g i) k = sN f k + sN g k := by
  induction k with
  | zero => rfl
  | succ k ih => simp only [sN]; rw [ih]; omega
theorem sN_cong {f g : Nat → Nat} {k : Nat} (h : ∀ i, i < k → f i = g i) : sN f k = sN g k := by
  induction k with
  | zero => rfl
  | succ k ih => rw [sN, sN, ih (fun i hi => h i (by omega)), h k (by omega)]
theorem sN_cn (P : Nat → Bool) (k : Nat) : sN (fun i => if P i = true then 1 else 0) k = cn P k := by
  induction k with
  | zero => rfl
  | succ k ih => rw [sN, cn, ih]
theorem sN_swap (P : Nat → Nat → Bool) (M N : Nat) : sN (fun a => cn (fun b => P a b) M) N = sN (fun b => cn (fun a => P a b) N) M := by
  induction M with
  | zero =>
    have : ∀ k, sN (fun _ => 0) k = 0 := by
      intro k
      induction k with
      | zero => rfl
      | succ k ih => rw [sN, ih]
    exact this N
  | succ M ih =>
    rw [sN, ← ih]
    show sN (fun a => cn (fun b => P a b) M + (if P a M = true then 1 else 0)) N = _
    rw [sN_add, sN_cn (fun a => P a M)]
/-- how many edges -/
def edN (F : Nat → Nat → Int32) (N : Nat) : Nat := sN (fun b => cn (fun a => bt (prd F b) a) N) N
set_option maxHeartbeats 4000000 in
set_option maxRecDepth 100000 in
 theorem c9_edges {G : GC} {B n m : Nat} {A : Nat → Nat → Int32} {Wy : Nat → Int64} {V : Nat → Int32} {h : HT} {N : Nat} {S : Nat → Int32} {F : Nat → Nat → Int32} (hN : N ≤ 20) (hm : MW N S F (A 0)) : CtJ G B M9_edges [.ref (B + m)] n (wM B m A Wy V h) 0 0 (eqP (some (.int (nI (edN F N)))) n (wM B m A Wy V h)) := by
  have hw0 := hm.1
  have hsw : edN F N = sN (fun a => cn (fun b => bt (prd F b) a) N) N := (sN_swap (fun b a => bt (prd F b) a) N N)
  rw [hsw]
  unfold CtJ
  refine jj_lv (lv' := [some (.ref (B + m)), none, none, none]) rfl ?_
  refine jj_s (pc' := 1) rfl rfl ?_
  refine jj_s (pc' := 2) rfl rfl ?_
  refine jj_s (pc' := 3) rfl rfl ?_
  refine jj_s (pc' := 4) rfl rfl ?_
  have L : ∀ d k z, k ≤ N → N + 1 ≤ k + d → JJ X0 G B M9_edges 4 [some (.ref (B + m)), some (.int (nI (sN (fun a => cn (fun b => bt (prd F b) a) N) k))), some (.int (nI k)), z] [] n (wM B m A Wy V h) 0 0 (eqP (some (.int (nI (sN (fun a => cn (fun b => bt (prd F b) a) N) N)))) n (wM B m A Wy V h)) := by
    intro d
    induction d with
    | zero => intro k z h1 h2; exact absurd h2 (by omega)
    | succ d ih =>
      intro k z h1 h2
      refine jj_s (pc' := 5) rfl rfl ?_
      refine jj_s (pc' := 6) rfl rfl ?_
      refine jj_g rfl rfl wM_o rfl ?_
      refine jj_s (pc' := 10) rfl rfl ?_
      refine jj_m0 hw0 rfl ?_
      refine jj_geN 55 rfl rfl (by omega) (by omega) (fun c => ?_) (fun c => ?_)
      · refine jj_s (pc' := 56) rfl rfl ?_
        exact jj_iret rfl rfl ⟨by rw [show k = N by omega], rfl, rfl⟩
      · refine jj_s (pc' := 15) rfl rfl ?_
        refine jj_s (pc' := 16) rfl rfl ?_
        have L2 : ∀ e j, j ≤ N → N + 1 ≤ j + e → JJ X0 G B M9_edges 16 [some (.ref (B + m)), some (.int (nI (sN (fun a => cn (fun b => bt (prd F b) a) N) k + cn (fun b => bt (prd F b) k) j))), some (.int (nI k)), some (.int (nI j))] [] n (wM B m A Wy V h) 0 0 (eqP (some (.int (nI (sN (fun a => cn (fun b => bt (prd F b) a) N) N)))) n (wM B m A Wy V h)) := by
          intro e
          induction e with
          | zero => intro j g1 g2; exact absurd g2 (by omega)
          | succ e ih2 =>
            intro j g1 g2
            refine jj_s (pc' := 17) rfl rfl ?_
            refine jj_s (pc' := 18) rfl rfl ?_
            refine jj_g rfl rfl wM_o rfl ?_
            refine jj_s (pc' := 22) rfl rfl ?_
            refine jj_m0 hw0 rfl ?_
            refine jj_geN 49 rfl rfl (by omega) (by omega) (fun cj => ?_) (fun cj => ?_)
            · have hj : j = N := by omega
              subst hj
              first | refine jj_inc rfl rfl ?_ | refine jj_s (pc' := 52) rfl rfl ?_
              refine jj_s (pc' := 4) rfl rfl ?_
              exact ih (k + 1) _ (by omega) (by omega)
            · refine jj_s (pc' := 27) rfl rfl ?_
              refine jj_s (pc' := 28) rfl rfl ?_
              refine jj_s (pc' := 29) rfl rfl ?_
              refine jj_s (pc' := 30) rfl rfl ?_
              refine jj_v2 rfl rfl rfl wM_o rfl rfl (c9_kindOf (by omega) (by omega)) ?_
              rw [hm.2.2.2 k j c cj]
              refine jj_if_lt 40 rfl rfl (fun c2 => ?_) (fun c2 => ?_)
              · have c2 := (kd_n F k j).mp c2
                refine jj_s (pc' := 41) rfl rfl ?_
                refine jj_s (pc' := 42) rfl rfl ?_
                refine jj_s (pc' := 43) rfl rfl ?_
                first | refine jj_inc rfl rfl ?_ | refine jj_s (pc' := 46) rfl rfl ?_
                refine jj_s (pc' := 16) rfl rfl ?_
                refine jj_lv ?_ (ih2 (j + 1) (by omega) (by omega))
                have e1 : nI (sN (fun a => cn (fun b => bt (prd F b) a) N) k + cn (fun b => bt (prd F b) k) j) + 0 = nI (sN (fun a => cn (fun b => bt (prd F b) a) N) k + cn (fun b => bt (prd F b) k) (j + 1)) := by
                  rw [cn, if_neg (by rw [c2]; decide), Nat.add_zero, Int32.add_zero]
                exact congrArg (fun z => [some (Value.ref (B + m)), some (Value.int z), some (Value.int (nI k)), some (Value.int (nI (j + 1)))]) e1
              · have c2 : bt (prd F j) k = true := by
                  cases hb : bt (prd F j) k
                  · exact absurd ((kd_n F k j).mpr hb) c2
                  · rfl
                refine jj_s (pc' := 37) rfl rfl ?_
                refine jj_s (pc' := 41) rfl rfl ?_
                refine jj_s (pc' := 42) rfl rfl ?_
                refine jj_s (pc' := 43) rfl rfl ?_
                first | refine jj_inc rfl rfl ?_ | refine jj_s (pc' := 46) rfl rfl ?_
                refine jj_s (pc' := 16) rfl rfl ?_
                refine jj_lv ?_ (ih2 (j + 1) (by omega) (by omega))
                have e1 : nI (sN (fun a => cn (fun b => bt (prd F b) a) N) k + cn (fun b => bt (prd F b) k) j) + 1 = nI (sN (fun a => cn (fun b => bt (prd F b) a) N) k + cn (fun b => bt (prd F b) k) (j + 1)) := by
                  rw [cn, if_pos c2, ← Nat.add_assoc, nI_1]
                exact congrArg (fun z => [some (Value.ref (B + m)), some (Value.int z), some (Value.int (nI k)), some (Value.int (nI (j + 1)))]) e1
        exact L2 (N + 1) 0 (by omega) (by omega)
  exact L (N + 1) 0 none (by omega) (by omega)
set_option maxHeartbeats 4000000 in
set_option maxRecDepth 100000 in
 theorem m_edges {G : GC} {B n m N : Nat} {S : Nat → Int32} {F : Nat → Nat → Int32} {L : Nat} {pt : Nat → Int32} {len : Nat} {C : Nat → Int32} {sv : Nat → Option (Nat × (Nat → Int32) × (Nat → Nat → Int32))} {h : HT} (hN : N ≤ 20) (hM : ML B m N S F L pt len C sv h) : CtJ G B M9_edges [.ref (B + m)] n h 0 0 (fun r2 n2 h2 => r2 = some (.int (nI (edN F N))) ∧ n2 = n ∧ ML B m N S F L pt len C sv h2 ∧ tk m h h2) := by
  obtain ⟨A, Wy, V, hh, ha⟩ := hM
  unfold CtJ
  refine jj_h hh ?_
  have := c9_edges (G := G) (B := B) (n := n) (m := m) (Wy := Wy) (V := V) (h := h) hN ha.1
  exact jj_mono this (fun r n2 h2 q => ⟨q.1, q.2.1, by rw [q.2.2]; exact MLa.fin ha⟩)
/-- an edge is written -/
theorem MW.ed {N : Nat} {S : Nat → Int32} {F F' : Nat → Nat → Int32} {w : Nat → Int32} {p i : Nat} {x : Int32} (hm : MW N S F w) (hN : N ≤ 20) (hp : p < N) (hi : i < N) (hF : ∀ a, a ≠ 11 → a ≠ 12 → F' a = F a) (hj : ∀ a j, j ≠ i → F' a j = F a j) (hk : ∀ q, q < N → kd F' q i = if q = p then x else kd F q i) : MW N S F' (upd w (245 + 20 * p + i) x) := by
  obtain ⟨m0, m1, m2, m3⟩ := hm
  refine ⟨by rw [pk_un (by omega)]; exact m0, fun k k1 k4 => by rw [pk_un (by omega)]; exact m1 k k1 k4, fun j hjN => ?_, fun q j hq hjN => ?_⟩
  · obtain ⟨g1, g2, g3, g4, g5, g6, g7⟩ := m2 j hjN
    have ew : ∀ a, a < 12 → ofW (upd w (245 + 20 * p + i) x) j a = ofW w j a := fun a ha => pk_un (by omega)
    refine ⟨fun a ha => ?_, ?_, ?_, ?_, fun e => ?_, fun e => ?_, ?_⟩
    · rw [ew a (by omega), hF a (by omega) (by omega)]; exact g1 a ha
    · rw [ew 5 (by omega), hF 9 (by decide) (by decide)]; exact g2
    · rw [ew 8 (by omega), hF 5 (by decide) (by decide)]; exact g3
    · rw [ew 9 (by omega), hF 10 (by decide) (by decide)]; exact g4
    · rw [hF 5 (by decide) (by decide)] at e
      rw [ew 6 (by omega), ew 10 (by omega), hF 6 (by decide) (by decide), hF 7 (by decide) (by decide)]; exact g5 e
    · rw [hF 5 (by decide) (by decide)] at e
      rw [ew 7 (by omega), hF 8 (by decide) (by decide)]; exact g6 e
    · rw [hF 5 (by decide) (by decide)]; exact g7
  · show upd w _ x _ = _
    by_cases e : j = i
    · subst e
      rw [hk q hq]
      by_cases e2 : q = p
      · subst e2; rw [if_pos rfl]; exact pk_us
      · rw [if_neg e2, pk_un (by omega)]; exact m3 q j hq hjN
    · rw [pk_un (by omega)]
      have := m3 q j hq hjN
      unfold kd at this ⊢
      rw [hj 11 j e, hj 12 j e]
      exact this
theorem drF_o (F : Nat → Nat → Int32) (p i a : Nat) (h1 : a ≠ 11) (h2 : a ≠ 12) : drF F p i a = F a := by
  unfold drF
  rw [uF_j _ _ _ _ h2, uF_j _ _ _ _ h1]
theorem drF_11 (F : Nat → Nat → Int32) (p i : Nat) : drF F p i 11 i = F 11 i &&& (bit p ^^^ -1) := by
  unfold drF
  rw [uF_j _ _ _ _ (by decide), uF_s]
theorem drF_12 (F : Nat → Nat → Int32) (p i : Nat) : drF F p i 12 i = F 12 i &&& (bit p ^^^ -1) := by
  unfold drF
  rw [uF_s]
theorem drF_i (F : Nat → Nat → Int32) (p i a : Nat) {j : Nat} (hj : j ≠ i) : drF F p i a j = F a j := by
  unfold drF
  rw [uF_i _ _ _ _ hj, uF_i _ _ _ _ hj]
theorem kd_dr (F : Nat → Nat → Int32) {p : Nat} (hp : p < 32) (i q : Nat) : kd (drF F p i) q i = if q = p then 0 else kd F q i := by
  unfold kd
  rw [drF_11, drF_12, b_drop hp, b_drop hp]
  by_cases e : q = p
  · rw [if_pos e, decide_eq_true e]; simp
  · rw [if_neg e, decide_eq_false e]; simp
theorem MW.dr {N : Nat} {S : Nat → Int32} {F : Nat → Nat → Int32} {w : Nat → Int32} {p i : Nat} (hm : MW N S F w) (hN : N ≤ 20) (hp : p < N) (hi : i < N) : MW N S (drF F p i) (upd w (245 + 20 * p + i) 0) := hm.ed hN hp hi (fun a h1 h2 => drF_o F p i a h1 h2) (fun a j hj => drF_i F p i a hj) (fun q _ => kd_dr F (by omega) i q)
theorem ptF_o (F : Nat → Nat → Int32) (p i : Nat) (k : Int32) (a : Nat) (h1 : a ≠ 11) (h2 : a ≠ 12) : ptF F p i k a = F a := by
  unfold ptF
  split
  · rw [uF_j _ _ _ _ h1, drF_o F p i a h1 h2]
  · rw [uF_j _ _ _ _ h2, drF_o F p i a h1 h2]
theorem ptF_i (F : Nat → Nat → Int32) (p i : Nat) (k : Int32) (a : Nat) {j : Nat} (hj : j ≠ i) : ptF F p i k a j = F a j := by
  unfold ptF
  split
  · rw [uF_i _ _ _ _ hj, drF_i F p i a hj]
  · rw [uF_i _ _ _ _ hj, drF_i F p i a hj]
theorem bt_pt (F : Nat → Nat → Int32) {p : Nat} (hp : p < 32) (i : Nat) (k : Int32) (q : Nat) : bt (ptF F p i k 11 i) q = (if q = p then decide (k = 0) else bt (F 11 i) q) ∧ bt (ptF F p i k 12 i) q = (if q = p then !decide (k = 0) else bt (F 12 i) q) := by
  unfold ptF
  by_cases hk : k = 0
  · rw [if_pos hk, uF_s, uF_j _ _ _ _ (by decide), drF_11, drF_12, b_put hp, b_drop hp, b_drop hp, decide_eq_true hk]
    by_cases e : q = p
    · simp [e]
    · simp [e]
  · rw [if_neg hk, uF_s, uF_j _ _ _ _ (by decide), drF_11, drF_12, b_put hp, b_drop hp, b_drop hp, decide_eq_false hk]
    by_cases e : q = p
    · simp [e]
    · simp [e]
theorem kd_pt (F : Nat → Nat → Int32) {p : Nat} (hp : p < 32) (i : Nat) {k : Int32} (hk : k = 0 ∨ k = 1) (q : Nat) : kd (ptF F p i k) q i = if q = p then k + 1 else kd F q i := by
  obtain ⟨h1, h2⟩ := bt_pt F hp i k q
  unfold kd
  rw [h1, h2]
  by_cases e : q = p
  · rw [if_pos e, if_pos e, if_pos e]
    rcases hk with rfl | rfl <;> rfl
  · rw [if_neg e, if_neg e, if_neg e]
theorem MW.pt {N : Nat} {S : Nat → Int32} {F : Nat → Nat → Int32} {w : Nat → Int32} {p i : Nat} (hm : MW N S F w) (hN : N ≤ 20) (hp : p < N) (hi : i < N) {k : Int32} (hk : k = 0 ∨ k = 1) : MW N S (ptF F p i k) (upd w (245 + 20 * p + i) (k + 1)) := hm.ed hN hp hi (fun a h1 h2 => ptF_o F p i k a h1 h2) (fun a j hj => ptF_i F p i k a hj) (fun q _ => kd_pt F (by omega) i hk q)
theorem lt2_01 {x : Int32} (h0 : 0 ≤ x) : x < 2 ↔ (x = 0 ∨ x = 1) := by
  constructor
  · intro h
    refine le1_01 h0 fun q => ?_
    rw [Int32.lt_iff_toInt_lt] at h q
    have e2 : (2 : Int32).toInt = 2 := rfl
    have e1 : (1 : Int32).toInt = 1 := rfl
    omega
  · rintro (rfl | rfl) <;> decide
theorem msP.ml {B m n : Nat} {N : Nat} {S : Nat → Int32} {F F' : Nat → Nat → Int32} {L : Nat} {pt : Nat → Int32} {len : Nat} {C : Nat → Int32} {sv : Nat → Option (Nat × (Nat → Int32) × (Nat → Nat → Int32))} {A A0 : Nat → Nat → Int32} {Wy : Nat → Int64} {V V0 : Nat → Int32} {N0 : Nat} {S0' : Nat → Int32} {a b : Nat} {h : HT} {r : Option Value} {n2 : Nat} {h2 : HT} (q : msP B m n N S F' A Wy V a b h r n2 h2) (ha : MLa N0 S0' F L pt len C sv A0 V0) (hA : ∀ j, j < 4 → j ≠ 0 → A j = A0 j) (v2 : V 2 = V0 2) (v4 : V 4 = V0 4) (v6 : V 6 = V0 6) : r = none ∧ n2 = n ∧ ∃ A', h2 = wM B m A' Wy (vv V (nI a) (nI b)) h ∧ MLa N S F' L pt len C sv A' (vv V (nI a) (nI b)) := by
  obtain ⟨q1, q2, A', q3, q4, q5⟩ := q
  refine ⟨q1, q2, A', q3, ha.w q4 (fun j h1 h2 => (q5 j h2).trans (hA j h1 h2)) ?_ ?_ ?_⟩
  · exact v2
  · exact v4
  · exact v6
set_option maxHeartbeats 4000000 in
set_option maxRecDepth 100000 in
 theorem m_unlink {G : GC} {B n m N : Nat} {S : Nat → Int32} {F : Nat → Nat → Int32} {L : Nat} {pt : Nat → Int32} {len : Nat} {C : Nat → Int32} {sv : Nat → Option (Nat × (Nat → Int32) × (Nat → Nat → Int32))} {h : HT} (hN : N ≤ 20) (hM : ML B m N S F L pt len C sv h) (x y : Int32) (hT : (isN N x && isN N y) = true → stt S N 1000 (drF F (ix x) (ix y)) = true) (hE : (isN N x && isN N y) = true → sm (fun i => bcF (prd (stl S N 1000 (drF F (ix x) (ix y))) i)) N = nI (edN (stl S N 1000 (drF F (ix x) (ix y))) N)) : CtJ G B M9_unlink [.ref (B + m), .int x, .int y] n h 0 0 (fun r2 n2 h2 => r2 = some (.int ((zUnl N S F x y).1)) ∧ n2 = n ∧ ML B m N S (zUnl N S F x y).2 L pt len C sv h2 ∧ tk m h h2) := by
  obtain ⟨A, Wy, V, hh, ha⟩ := hM
  have hw0 := ha.1.1
  have fin0 : ML B m N S F L pt len C sv (wM B m A Wy V h) ∧ tk m h (wM B m A Wy V h) := MLa.fin ha
  unfold CtJ
  refine jj_lv (lv' := [some (.ref (B + m)), some (.int x), some (.int y)]) rfl ?_
  refine jj_h hh ?_
  have bad : (isN N x && isN N y) = false → JJ X0 G B M9_unlink 16 [some (.ref (B + m)), some (.int x), some (.int y)] [] n (wM B m A Wy V h) 0 0 (fun r2 n2 h2 => r2 = some (.int ((zUnl N S F x y).1)) ∧ n2 = n ∧ ML B m N S (zUnl N S F x y).2 L pt len C sv h2 ∧ tk m h h2) := by
    intro hb
    have e : zUnl N S F x y = (-1, F) := by rw [zUnl, if_neg (by rw [hb]; decide)]
    rw [e]
    refine jj_s (pc' := 17) rfl rfl ?_
    exact jj_iret rfl rfl ⟨rfl, rfl, fin0⟩
  refine jj_s (pc' := 1) rfl rfl ?_
  refine jj_s (pc' := 2) rfl rfl ?_
  refine jj_v1 rfl rfl rfl wM_o rfl rfl (c9_isItem hN hw0 _) ?_
  refine jj_zT 16 rfl rfl (fun c1 => bad (by rw [c1]; rfl)) (fun c1 => ?_)
  refine jj_s (pc' := 9) rfl rfl ?_
  refine jj_s (pc' := 10) rfl rfl ?_
  refine jj_v1 rfl rfl rfl wM_o rfl rfl (c9_isItem hN hw0 _) ?_
  refine jj_zF 18 rfl rfl (fun c2 => ?_) (fun c2 => bad (by rw [c2]; simp))
  have ok : (isN N x && isN N y) = true := by rw [c1, c2]; rfl
  obtain ⟨i, hi, rfl⟩ := isN_of hN c1
  obtain ⟨j, hj, rfl⟩ := isN_of hN c2
  have hT := hT ok
  have hE := hE ok
  rw [ix_nI (by omega), ix_nI (by omega)] at hT hE
  obtain ⟨g1, g2, g3, g4, g5, g6, g7⟩ := ha.1.2.2.1 j hj
  have no : ¬ (bt (prd F j) i = true ∧ (F 5 j = 0 ∨ F 5 j = 1)) → JJ X0 G B M9_unlink 38 [some (.ref (B + m)), some (.int (nI i)), some (.int (nI j))] [] n (wM B m A Wy V h) 0 0 (fun r2 n2 h2 => r2 = some (.int ((zUnl N S F (nI i) (nI j)).1)) ∧ n2 = n ∧ ML B m N S (zUnl N S F (nI i) (nI j)).2 L pt len C sv h2 ∧ tk m h h2) := by
    intro hb
    have e : zUnl N S F (nI i) (nI j) = (-4, F) := by rw [zUnl, if_pos ok, ix_nI (by omega), ix_nI (by omega), if_neg hb]
    rw [e]
    refine jj_s (pc' := 40) rfl rfl ?_
    exact jj_iret rfl rfl ⟨rfl, rfl, fin0⟩
  refine jj_s (pc' := 19) rfl rfl ?_
  refine jj_s (pc' := 20) rfl rfl ?_
  refine jj_s (pc' := 21) rfl rfl ?_
  refine jj_v2 rfl rfl rfl wM_o rfl rfl (c9_kindOf (by omega) (by omega)) ?_
  rw [ha.1.2.2.2 i j hi hj]
  refine jj_if_lt 38 rfl rfl (fun c3 => no (fun z => by rw [(kd_n F i j).mp c3] at z; cases z.1)) (fun c3 => ?_)
  have c3 : bt (prd F j) i = true := by
    cases hb : bt (prd F j) i
    · exact absurd ((kd_n F i j).mpr hb) c3
    · rfl
  refine jj_s (pc' := 28) rfl rfl ?_
  refine jj_s (pc' := 29) rfl rfl ?_
  refine jj_s (pc' := 31) rfl rfl ?_
  refine jj_v2 rfl rfl rfl wM_o rfl rfl (c9_of (a := 8) (by omega) (by decide)) ?_
  rw [g3]
  refine jj_s (pc' := 35) rfl rfl ?_
  refine jj_icmp_lt 41 rfl rfl (fun c4 => ?_) (fun c4 => no (fun z => c4 ((lt2_01 g7).mpr z.2)))
  have e : zUnl N S F (nI i) (nI j) = (sm (fun k => bcF (prd (stl S N 1000 (drF F i j)) k)) N, stl S N 1000 (drF F i j)) := by rw [zUnl, if_pos ok, ix_nI (by omega), ix_nI (by omega), if_pos ⟨c3, (lt2_01 g7).mp c4⟩]
  rw [e, hE]
  refine jj_s (pc' := 42) rfl rfl ?_
  refine jj_g rfl rfl wM_o rfl ?_
  refine jj_s (pc' := 48) rfl rfl ?_
  refine jj_s (pc' := 50) rfl rfl ?_
  refine jj_s (pc' := 51) rfl rfl ?_
  refine jj_s (pc' := 52) rfl rfl ?_
  refine jj_s (pc' := 53) rfl rfl ?_
  refine jj_s (pc' := 54) rfl rfl ?_
  refine jj_s (pc' := 55) rfl rfl ?_
  refine jj_s (pc' := 56) rfl rfl ?_
  refine jj_st (by rw [ixK i j]) ?_
  refine jj_mst 645 rfl rfl (by decide) (by omega) ?_
  refine jj_s (pc' := 58) rfl rfl ?_
  refine jj_vp0 rfl rfl rfl wM_o rfl rfl (c9_settle hN (F := drF F i j) (S := S) (by rw [uF_same]; exact ha.1.dr hN hi hj) hT) (fun r n' h' q => ?_)
  obtain ⟨rfl, rfl, A', rfl, ha'⟩ := q.ml ha (fun k _ h0 => uF_j _ _ _ _ h0) rfl rfl rfl
  refine jj_s (pc' := 62) rfl rfl ?_
  refine jj_v0 rfl rfl rfl wM_o rfl rfl (c9_edges hN ha'.1) ?_
  exact jj_iret rfl rfl ⟨rfl, rfl, MLa.fin ha'⟩
set_option maxHeartbeats 4000000 in
set_option maxRecDepth 100000 in
 theorem m_finish {G : GC} {B n m N : Nat} {S : Nat → Int32} {F : Nat → Nat → Int32} {L : Nat} {pt : Nat → Int32} {len : Nat} {C : Nat → Int32} {sv : Nat → Option (Nat × (Nat → Int32) × (Nat → Nat → Int32))} {h : HT} (hN : N ≤ 20) (hM : ML B m N S F L pt len C sv h) (x y : Int32) (hT : isN N x = true → stt S N 1000 (uF F 5 (ix x) 3) = true) (hE : isN N x = true → F 5 (ix x) = 2 → (zEnd N S F (ix x) 3 1).1 = nI (stlC 1 S N 1000 (uF F 5 (ix x) 3))) : CtJ G B M9_finish [.ref (B + m), .int x, .int y] n h 0 0 (fun r2 n2 h2 => r2 = some (.int ((zFin N S F x y).1)) ∧ n2 = n ∧ ML B m N S (zFin N S F x y).2 L pt len C sv h2 ∧ tk m h h2) := by
  obtain ⟨A, Wy, V, hh, ha⟩ := hM
  have hw0 := ha.1.1
  have fin0 : ML B m N S F L pt len C sv (wM B m A Wy V h) ∧ tk m h (wM B m A Wy V h) := MLa.fin ha
  unfold CtJ
  refine jj_lv (lv' := [some (.ref (B + m)), some (.int x), some (.int y)]) rfl ?_
  refine jj_h hh ?_
  refine jj_s (pc' := 1) rfl rfl ?_
  refine jj_s (pc' := 2) rfl rfl ?_
  refine jj_v1 rfl rfl rfl wM_o rfl rfl (c9_isItem hN hw0 _) ?_
  refine jj_zF 10 rfl rfl (fun c1 => ?_) (fun c1 => ?_)
  · obtain ⟨i, hi, rfl⟩ := isN_of hN c1
    have hT := hT c1
    have hE := hE c1
    rw [ix_nI (by omega)] at hT hE
    obtain ⟨g1, g2, g3, g4, g5, g6, g7⟩ := ha.1.2.2.1 i hi
    refine jj_s (pc' := 11) rfl rfl ?_
    refine jj_s (pc' := 12) rfl rfl ?_
    refine jj_s (pc' := 13) rfl rfl ?_
    refine jj_v2 rfl rfl rfl wM_o rfl rfl (c9_isValid (by omega) _) ?_
    rw [g3, g4]
    refine jj_zF 22 rfl rfl (fun c2 => ?_) (fun c2 => ?_)
    · have c2 := of_decide_eq_true c2
      have e : zFin N S F (nI i) y = zEnd N S F i 3 1 := by rw [zFin, if_pos c1, ix_nI (by omega), if_pos c2]
      rw [e, hE c2.1]
      show JJ X0 G B M9_finish 22 _ _ n (wM B m A Wy V h) 0 0 (fun r2 n2 h2 => r2 = some (.int (nI (stlC 1 S N 1000 (uF F 5 i 3)))) ∧ n2 = n ∧ ML B m N S (stl S N 1000 (uF F 5 i 3)) L pt len C sv h2 ∧ tk m h h2)
      refine jj_s (pc' := 23) rfl rfl ?_
      refine jj_s (pc' := 24) rfl rfl ?_
      refine jj_s (pc' := 26) rfl rfl ?_
      refine jj_s (pc' := 27) rfl rfl ?_
      refine jj_w3 rfl rfl rfl wM_o rfl rfl (c9_set (a := 8) (by omega) (by decide) _) ?_
      refine jj_s (pc' := 31) rfl rfl ?_
      refine jj_vp0 rfl rfl rfl wM_o rfl rfl (c9_settle hN (F := uF F 5 i 3) (S := S) (by rw [uF_same]; exact ha.1.st hN hi (by decide) (by decide) (by decide)) hT) (fun r n' h' q => ?_)
      obtain ⟨rfl, rfl, A', rfl, ha'⟩ := q.ml ha (fun k _ h0 => uF_j _ _ _ _ h0) rfl rfl rfl
      refine jj_s (pc' := 35) rfl rfl ?_
      refine jj_g rfl rfl wM_o rfl ?_
      exact jj_iret rfl rfl ⟨rfl, rfl, MLa.fin ha'⟩
    · have e : zFin N S F (nI i) y = (-6, F) := by rw [zFin, if_pos c1, ix_nI (by omega), if_neg (of_decide_eq_false c2)]
      rw [e]
      refine jj_s (pc' := 21) rfl rfl ?_
      exact jj_iret rfl rfl ⟨rfl, rfl, fin0⟩
  · have e : zFin N S F x y = (-1, F) := by rw [zFin, if_neg (by rw [c1]; decide)]
    rw [e]
    refine jj_s (pc' := 9) rfl rfl ?_
    exact jj_iret rfl rfl ⟨rfl, rfl, fin0⟩
set_option maxHeartbeats 4000000 in
set_option maxRecDepth 100000 in
 theorem m_cancel {G : GC} {B n m N : Nat} {S : Nat → Int32} {F : Nat → Nat → Int32} {L : Nat} {pt : Nat → Int32} {len : Nat} {C : Nat → Int32} {sv : Nat → Option (Nat × (Nat → Int32) × (Nat → Nat → Int32))} {h : HT} (hN : N ≤ 20) (hM : ML B m N S F L pt len C sv h) (x : Int32) (hT : isN N x = true → stt S N 1000 (uF F 5 (ix x) 4) = true) (hE : isN N x = true → ¬ 3 ≤ F 5 (ix x) → (zEnd N S F (ix x) 4 5).1 = nI (stlC 5 S N 1000 (uF F 5 (ix x) 4))) : CtJ G B M9_cancel [.ref (B + m), .int x] n h 0 0 (fun r2 n2 h2 => r2 = some (.int ((zCan N S F x).1)) ∧ n2 = n ∧ ML B m N S (zCan N S F x).2 L pt len C sv h2 ∧ tk m h h2) := by
  obtain ⟨A, Wy, V, hh, ha⟩ := hM
  have hw0 := ha.1.1
  have fin0 : ML B m N S F L pt len C sv (wM B m A Wy V h) ∧ tk m h (wM B m A Wy V h) := MLa.fin ha
  unfold CtJ
  refine jj_lv (lv' := [some (.ref (B + m)), some (.int x)]) rfl ?_
  refine jj_h hh ?_
  refine jj_s (pc' := 1) rfl rfl ?_
  refine jj_s (pc' := 2) rfl rfl ?_
  refine jj_v1 rfl rfl rfl wM_o rfl rfl (c9_isItem hN hw0 _) ?_
  refine jj_zF 10 rfl rfl (fun c1 => ?_) (fun c1 => ?_)
  · obtain ⟨i, hi, rfl⟩ := isN_of hN c1
    have hT := hT c1
    have hE := hE c1
    rw [ix_nI (by omega)] at hT hE
    obtain ⟨g1, g2, g3, g4, g5, g6, g7⟩ := ha.1.2.2.1 i hi
    refine jj_s (pc' := 11) rfl rfl ?_
    refine jj_s (pc' := 12) rfl rfl ?_
    refine jj_v1 rfl rfl rfl wM_o rfl rfl (c9_hasEnded (by omega)) ?_
    rw [g3]
    refine jj_zT 21 rfl rfl (fun c2 => ?_) (fun c2 => ?_)
    · have c2 := of_decide_eq_false c2
      have e : zCan N S F (nI i) = zEnd N S F i 4 5 := by rw [zCan, if_pos c1, ix_nI (by omega), if_neg c2]
      rw [e, hE c2]
      show JJ X0 G B M9_cancel 21 _ _ n (wM B m A Wy V h) 0 0 (fun r2 n2 h2 => r2 = some (.int (nI (stlC 5 S N 1000 (uF F 5 i 4)))) ∧ n2 = n ∧ ML B m N S (stl S N 1000 (uF F 5 i 4)) L pt len C sv h2 ∧ tk m h h2)
      refine jj_s (pc' := 22) rfl rfl ?_
      refine jj_s (pc' := 23) rfl rfl ?_
      refine jj_s (pc' := 25) rfl rfl ?_
      refine jj_s (pc' := 26) rfl rfl ?_
      refine jj_w3 rfl rfl rfl wM_o rfl rfl (c9_set (a := 8) (by omega) (by decide) _) ?_
      refine jj_s (pc' := 30) rfl rfl ?_
      refine jj_vp0 rfl rfl rfl wM_o rfl rfl (c9_settle hN (F := uF F 5 i 4) (S := S) (by rw [uF_same]; exact ha.1.st hN hi (by decide) (by decide) (by decide)) hT) (fun r n' h' q => ?_)
      obtain ⟨rfl, rfl, A', rfl, ha'⟩ := q.ml ha (fun k _ h0 => uF_j _ _ _ _ h0) rfl rfl rfl
      refine jj_s (pc' := 34) rfl rfl ?_
      refine jj_g rfl rfl wM_o rfl ?_
      exact jj_iret rfl rfl ⟨rfl, rfl, MLa.fin ha'⟩
    · have e : zCan N S F (nI i) = (-4, F) := by rw [zCan, if_pos c1, ix_nI (by omega), if_pos (of_decide_eq_true c2)]
      rw [e]
      refine jj_s (pc' := 20) rfl rfl ?_
      exact jj_iret rfl rfl ⟨rfl, rfl, fin0⟩
  · have e : zCan N S F x = (-1, F) := by rw [zCan, if_neg (by rw [c1]; decide)]
    rw [e]
    refine jj_s (pc' := 9) rfl rfl ?_
    exact jj_iret rfl rfl ⟨rfl, rfl, fin0⟩
