/-! how the reference's cells stand to the class's -/
def kd (F : Nat → Nat → Int32) (p i : Nat) : Int32 := if bt (F 11 i) p = true then 1 else if bt (F 12 i) p = true then 2 else 0
theorem kd_0 (F : Nat → Nat → Int32) (p i : Nat) : kd F p i - 1 = 0 ↔ bt (F 11 i) p = true := by
  unfold kd
  cases bt (F 11 i) p <;> cases bt (F 12 i) p <;> decide
theorem bt_prd (F : Nat → Nat → Int32) (i p : Nat) : bt (prd F i) p = (bt (F 11 i) p || bt (F 12 i) p) := b_or _ _ _
theorem kd_n (F : Nat → Nat → Int32) (p i : Nat) : kd F p i - 1 < 0 ↔ bt (prd F i) p = false := by
  rw [bt_prd]
  unfold kd
  cases bt (F 11 i) p <;> cases bt (F 12 i) p <;> decide
def RW (w : Nat → Int32) (F : Nat → Nat → Int32) (i : Nat) : Prop := (∀ a, a < 5 → ofW w i a = F a i) ∧ ofW w i 5 = F 9 i ∧ ofW w i 8 = F 5 i ∧ ofW w i 9 = F 10 i ∧ (F 5 i = 1 → ofW w i 6 = F 6 i ∧ ofW w i 10 = F 7 i) ∧ (F 5 i = 2 → ofW w i 7 = F 8 i) ∧ 0 ≤ F 5 i
def MW (N : Nat) (S : Nat → Int32) (F : Nat → Nat → Int32) (w : Nat → Int32) : Prop := w 0 = nI N ∧ (∀ k, 1 ≤ k → k ≤ 4 → w k = S k) ∧ (∀ i, i < N → RW w F i) ∧ ∀ p i, p < N → i < N → kdW w p i = kd F p i
theorem RW.cong {w w' : Nat → Int32} {F F' : Nat → Nat → Int32} {j : Nat} (h : RW w F j) (hw : ∀ a, a < 12 → ofW w' j a = ofW w j a) (hF : ∀ a, F' a j = F a j) : RW w' F' j := by
  obtain ⟨h1, h2, h3, h4, h5, h6, h7⟩ := h
  refine ⟨fun a ha => ?_, ?_, ?_, ?_, fun e => ?_, fun e => ?_, ?_⟩
  · rw [hw a (by omega), hF]; exact h1 a ha
  · rw [hw 5 (by omega), hF]; exact h2
  · rw [hw 8 (by omega), hF]; exact h3
  · rw [hw 9 (by omega), hF]; exact h4
  · rw [hF] at e; rw [hw 6 (by omega), hw 10 (by omega), hF, hF]; exact h5 e
  · rw [hF] at e; rw [hw 7 (by omega), hF]; exact h6 e
  · rw [hF]; exact h7
theorem MW.row {N : Nat} {S : Nat → Int32} {F F' : Nat → Nat → Int32} {w w' : Nat → Int32} {i : Nat} (hm : MW N S F w) (hi : i < 20) (h0 : ∀ k, k < 5 + 12 * i ∨ 5 + 12 * i + 12 ≤ k → w' k = w k) (hF : ∀ a j, j ≠ i → F' a j = F a j) (h11 : F' 11 i = F 11 i) (h12 : F' 12 i = F 12 i) (hr : RW w' F' i) : MW N S F' w' := by
  obtain ⟨m0, m1, m2, m3⟩ := hm
  refine ⟨by rw [h0 0 (by omega)]; exact m0, fun k k1 k2 => by rw [h0 k (by omega)]; exact m1 k k1 k2, fun j hj => ?_, fun p j hp hj => ?_⟩
  · by_cases e : j = i
    · subst e; exact hr
    · exact (m2 j hj).cong (fun a ha => h0 _ (by omega)) (fun a => hF a j e)
  · show w' (245 + 20 * p + j) = _
    rw [h0 _ (by omega)]
    have e := m3 p j hp hj
    unfold kd at e ⊢
    by_cases e1 : j = i
    · subst e1; rw [h11, h12]; exact e
    · rw [hF 11 j e1, hF 12 j e1]; exact e
set_option maxHeartbeats 4000000 in
set_option maxRecDepth 100000 in
 theorem c9_due {G : GC} {B n m : Nat} {A : Nat → Nat → Int32} {Wy : Nat → Int64} {V : Nat → Int32} {h : HT} {N : Nat} {S : Nat → Int32} {F : Nat → Nat → Int32} (hN : N ≤ 20) (hm : MW N S F (A 0)) {i : Nat} (hi : i < N) : CtJ G B M9_due [.ref (B + m), .int (nI i)] n (wM B m A Wy V h) 0 0 (eqP (some (.int (due F N i))) n (wM B m A Wy V h)) := by
  have hw0 := hm.1
  have hk : ∀ p, p < N → kdW (A 0) p i = kd F p i := fun p hp => hm.2.2.2 p i hp hi
  have hs : ∀ p, p < N → ofW (A 0) p 8 = F 5 p := fun p hp => (hm.2.2.1 p hp).2.2.1
  unfold CtJ
  refine jj_lv (lv' := [some (.ref (B + m)), some (.int (nI i)), none, none, none]) rfl ?_
  refine jj_s (pc' := 1) rfl rfl ?_
  refine jj_s (pc' := 2) rfl rfl ?_
  refine jj_s (pc' := 3) rfl rfl ?_
  refine jj_s (pc' := 4) rfl rfl ?_
  have L : ∀ d k z, k ≤ N → N + 1 ≤ k + d → anyN (fun p => bt (F 11 i) p && decide (3 < F 5 p)) k = false → JJ X0 G B M9_due 4 [some (.ref (B + m)), some (.int (nI i)), some (.int (bI (!anyN (fun p => bt (prd F i) p && !decide (3 ≤ F 5 p)) k))), some (.int (nI k)), z] [] n (wM B m A Wy V h) 0 0 (eqP (some (.int (due F N i))) n (wM B m A Wy V h)) := by
    intro d
    induction d with
    | zero => intro k z h1 h2; exact absurd h2 (by omega)
    | succ d ih =>
      intro k z h1 h2 h3
      refine jj_s (pc' := 5) rfl rfl ?_
      refine jj_s (pc' := 6) rfl rfl ?_
      refine jj_g rfl rfl wM_o rfl ?_
      refine jj_s (pc' := 10) rfl rfl ?_
      refine jj_m0 hw0 rfl ?_
      refine jj_geN 75 rfl rfl (by omega) (by omega) (fun c => ?_) (fun c => ?_)
      · have hkN : k = N := by omega
        subst hkN
        refine jj_s (pc' := 76) rfl rfl ?_
        refine jj_zT 83 rfl rfl (fun c2 => ?_) (fun c2 => ?_)
        · refine jj_s (pc' := 84) rfl rfl ?_
          refine jj_iret rfl rfl ⟨?_, rfl, rfl⟩
          rw [due, if_neg (by rw [h3]; decide), if_pos (by simpa using c2)]
          rfl
        · refine jj_s (pc' := 80) rfl rfl ?_
          refine jj_s (pc' := 84) rfl rfl ?_
          refine jj_iret rfl rfl ⟨?_, rfl, rfl⟩
          rw [due, if_neg (by rw [h3]; decide), if_neg (by simpa using c2)]
          rfl
      · have A48 : anyN (fun p => bt (F 11 i) p && decide (3 < F 5 p)) (k + 1) = false → JJ X0 G B M9_due 48 [some (.ref (B + m)), some (.int (nI i)), some (.int (bI (!anyN (fun p => bt (prd F i) p && !decide (3 ≤ F 5 p)) k))), some (.int (nI k)), some (.int (kd F k i - 1))] [] n (wM B m A Wy V h) 0 0 (eqP (some (.int (due F N i))) n (wM B m A Wy V h)) := by
          intro h4
          have fin : ∀ b : Bool, b = !(bt (prd F i) k && !decide (3 ≤ F 5 k)) → JJ X0 G B M9_due 67 [some (.ref (B + m)), some (.int (nI i)), some (.int (bI (!anyN (fun p => bt (prd F i) p && !decide (3 ≤ F 5 p)) k))), some (.int (nI k)), some (.int (kd F k i - 1))] [.int (bI b), .int (bI (!anyN (fun p => bt (prd F i) p && !decide (3 ≤ F 5 p)) k))] n (wM B m A Wy V h) 0 0 (eqP (some (.int (due F N i))) n (wM B m A Wy V h)) := by
            intro b hb
            refine jj_s (pc' := 68) rfl rfl ?_
            refine jj_s (pc' := 69) rfl rfl ?_
            first | refine jj_inc rfl rfl ?_ | refine jj_s (pc' := 72) rfl rfl ?_
            refine jj_s (pc' := 4) rfl rfl ?_
            refine jj_lv ?_ (ih (k + 1) (some (.int (kd F k i - 1))) (by omega) (by omega) h4)
            have e : bI (!anyN (fun p => bt (prd F i) p && !decide (3 ≤ F 5 p)) k) &&& bI b = bI (!anyN (fun p => bt (prd F i) p && !decide (3 ≤ F 5 p)) (k + 1)) := by
              rw [hb]
              show _ = bI (!(anyN (fun p => bt (prd F i) p && !decide (3 ≤ F 5 p)) k || (bt (prd F i) k && !decide (3 ≤ F 5 k))))
              cases anyN (fun p => bt (prd F i) p && !decide (3 ≤ F 5 p)) k <;> cases (bt (prd F i) k && !decide (3 ≤ F 5 k)) <;> decide
            exact congrArg (fun x => [some (Value.ref (B + m)), some (Value.int (nI i)), some (Value.int x), some (Value.int (nI (k + 1))), some (Value.int (kd F k i - 1))]) e
          refine jj_s (pc' := 49) rfl rfl ?_
          refine jj_s (pc' := 51) rfl rfl ?_
          refine jj_if_lt 62 rfl rfl (fun c4 => ?_) (fun c4 => ?_)
          · refine jj_s (pc' := 63) rfl rfl ?_
            refine jj_s (pc' := 67) rfl rfl ?_
            exact fin true (by rw [(kd_n F k i).mp c4]; rfl)
          · refine jj_s (pc' := 55) rfl rfl ?_
            refine jj_s (pc' := 56) rfl rfl ?_
            refine jj_v1 rfl rfl rfl wM_o rfl rfl (c9_hasEnded (by omega)) ?_
            rw [hs k c]
            refine jj_zT 66 rfl rfl (fun c5 => ?_) (fun c5 => ?_)
            · refine jj_s (pc' := 67) rfl rfl ?_
              refine fin false ?_
              rw [c5]
              have : bt (prd F i) k = true := by
                cases hb : bt (prd F i) k
                · exact absurd ((kd_n F k i).mpr hb) c4
                · rfl
              rw [this]
              rfl
            · refine jj_s (pc' := 63) rfl rfl ?_
              refine jj_s (pc' := 67) rfl rfl ?_
              exact fin true (by rw [c5]; simp)
        refine jj_s (pc' := 15) rfl rfl ?_
        refine jj_s (pc' := 16) rfl rfl ?_
        refine jj_s (pc' := 17) rfl rfl ?_
        refine jj_v2 rfl rfl rfl wM_o rfl rfl (c9_kindOf (by omega) (by omega)) ?_
        rw [hk k c]
        refine jj_s (pc' := 22) rfl rfl ?_
        refine jj_s (pc' := 24) rfl rfl ?_
        refine jj_if_ne 48 rfl rfl (fun c2 => ?_) (fun c2 => ?_)
        · refine A48 ?_
          have : bt (F 11 i) k = false := by
            cases hb : bt (F 11 i) k
            · rfl
            · exact absurd ((kd_0 F k i).mpr hb) c2
          simp only [anyN, h3, this, Bool.false_and, Bool.or_false]
        · have c2 := (kd_0 F k i).mp c2
          refine jj_s (pc' := 28) rfl rfl ?_
          refine jj_s (pc' := 29) rfl rfl ?_
          refine jj_v1 rfl rfl rfl wM_o rfl rfl (c9_hasEnded (by omega)) ?_
          rw [hs k c]
          refine jj_zT 48 rfl rfl (fun c3 => ?_) (fun c3 => ?_)
          · refine A48 ?_
            have c3 := of_decide_eq_false c3
            have : ¬ 3 < F 5 k := fun q => c3 (Int32.le_of_lt q)
            simp only [anyN, h3, decide_eq_false this, Bool.and_false, Bool.or_false]
          · refine jj_s (pc' := 36) rfl rfl ?_
            refine jj_s (pc' := 37) rfl rfl ?_
            refine jj_s (pc' := 39) rfl rfl ?_
            refine jj_v2 rfl rfl rfl wM_o rfl rfl (c9_of (a := 8) (by omega) (by decide)) ?_
            rw [hs k c]
            refine jj_s (pc' := 43) rfl rfl ?_
            refine jj_icmp_eq 48 rfl rfl (fun (c4 : F 5 k = 3) => ?_) (fun (c4 : ¬ F 5 k = 3) => ?_)
            · refine A48 ?_
              have : ¬ 3 < F 5 k := by rw [c4]; decide
              simp only [anyN, h3, decide_eq_false this, Bool.and_false, Bool.or_false]
            · refine jj_s (pc' := 47) rfl rfl ?_
              refine jj_iret rfl rfl ⟨?_, rfl, rfl⟩
              have c5 : 3 < F 5 k := by
                rcases Int32.lt_or_eq_of_le (of_decide_eq_true c3) with q | q
                · exact q
                · exact absurd q.symm c4
              have : anyN (fun p => bt (F 11 i) p && decide (3 < F 5 p)) N = true := (anyN_iff _ _).mpr ⟨k, c, by simp only [c2, decide_eq_true c5, Bool.and_true]⟩
              rw [due, if_pos this]
              rfl
  exact L (N + 1) 0 none (by omega) (by omega) rfl
/-- how many become such in a pass, and until all is settled -/
def pasC (t : Int32) (S : Nat → Int32) (N : Nat) (F : Nat → Nat → Int32) : Nat → Nat
  | 0 => 0
  | k + 1 => pasC t S N F k + (if ((si S N (pas S N F k).1 k).2 && decide ((si S N (pas S N F k).1 k).1 5 k = t)) = true then 1 else 0)
def stlC (t : Int32) (S : Nat → Int32) (N : Nat) : Nat → (Nat → Nat → Int32) → Nat
  | 0, _ => 0
  | m + 1, F => pasC t S N F N + (if (pas S N F N).2 = true then stlC t S N m (pas S N F N).1 else 0)
/-- it is settled after so many passes -/
def stt (S : Nat → Int32) (N : Nat) : Nat → (Nat → Nat → Int32) → Bool
  | 0, _ => false
  | m + 1, F => if (pas S N F N).2 = true then stt S N m (pas S N F N).1 else true
def vv (V : Nat → Int32) (a b : Int32) : Nat → Int32 := upd (upd V 7 a) 8 b
theorem vv7 (V : Nat → Int32) (a b x : Int32) : upd (vv V a b) 7 x = vv V x b := by
  funext k
  unfold vv upd
  by_cases h7 : k = 7
  · subst h7; simp
  · simp [h7]
theorem vv8 (V : Nat → Int32) (a b x : Int32) : upd (vv V a b) 8 x = vv V a x := by
  funext k
  unfold vv upd
  by_cases h8 : k = 8
  · subst h8; simp
  · simp [h8]
theorem due_3 (F : Nat → Nat → Int32) (N i : Nat) : due F N i = 0 ∨ due F N i = 1 ∨ due F N i = 5 := by
  unfold due
  split
  · exact Or.inr (Or.inr rfl)
  · split
    · exact Or.inl rfl
    · exact Or.inr (Or.inl rfl)
theorem le1_01 {x : Int32} (h0 : 0 ≤ x) (h1 : ¬ 1 < x) : x = 0 ∨ x = 1 := by
  have h1 := Int32.not_lt.mp h1
  rw [Int32.le_iff_toInt_le] at h0 h1
  have : x.toInt = 0 ∨ x.toInt = 1 := by
    have e0 : (0 : Int32).toInt = 0 := rfl
    have e1 : (1 : Int32).toInt = 1 := rfl
    omega
  rcases this with q | q
  · exact Or.inl (Int32.toInt_inj.mp q)
  · exact Or.inr (Int32.toInt_inj.mp q)
theorem RW.st {w : Nat → Int32} {F : Nat → Nat → Int32} {i : Nat} (h : RW w F i) {x : Int32} (hx : 0 ≤ x) (h1 : ¬ x = 1) (h2 : ¬ x = 2) : RW (upd w (5 + 12 * i + 8) x) (uF F 5 i x) i := by
  obtain ⟨g1, g2, g3, g4, g5, g6, g7⟩ := h
  have e5 : uF F 5 i x 5 i = x := uF_s _ _ _ _
  refine ⟨fun a ha => ?_, ?_, ?_, ?_, fun e => absurd (e5.symm.trans e) h1, fun e => absurd (e5.symm.trans e) h2, by rw [e5]; exact hx⟩
  · show upd w _ x _ = _
    rw [pk_un (by omega), uF_j _ _ _ _ (by omega)]; exact g1 a ha
  · show upd w _ x _ = _
    rw [pk_un (by omega), uF_j _ _ _ _ (by omega)]; exact g2
  · rw [e5]; exact pk_us
  · show upd w _ x _ = _
    rw [pk_un (by omega), uF_j _ _ _ _ (by omega)]; exact g4
theorem MW.st {N : Nat} {S : Nat → Int32} {F : Nat → Nat → Int32} {w : Nat → Int32} {i : Nat} (hm : MW N S F w) (hN : N ≤ 20) (hi : i < N) {x : Int32} (hx : 0 ≤ x) (h1 : ¬ x = 1) (h2 : ¬ x = 2) : MW N S (uF F 5 i x) (upd w (5 + 12 * i + 8) x) :=
  hm.row (i := i) (by omega) (fun k hk => pk_un (by omega)) (fun a j hj => uF_i _ _ _ _ hj _) (by rw [uF_j _ _ _ _ (by decide)]) (by rw [uF_j _ _ _ _ (by decide)]) ((hm.2.2.1 i hi).st hx h1 h2)
/-- ready: state, time and since -/
theorem MW.rd {N : Nat} {S : Nat → Int32} {F : Nat → Nat → Int32} {w w' : Nat → Int32} {i : Nat} (hm : MW N S F w) (hN : N ≤ 20) (hi : i < N) {x : Int32} (hw : ∀ k, w' k = if k = 5 + 12 * i + 10 then S 1 else if k = 5 + 12 * i + 6 then x else if k = 5 + 12 * i + 8 then 1 else w k) : MW N S (uF (uF (uF F 5 i 1) 6 i x) 7 i (S 1)) w' := by
  have ne : ∀ k, k ≠ 5 + 12 * i + 10 → k ≠ 5 + 12 * i + 6 → k ≠ 5 + 12 * i + 8 → w' k = w k := fun k h1 h2 h3 => by rw [hw, if_neg h1, if_neg h2, if_neg h3]
  have eF : ∀ a, a ≠ 5 → a ≠ 6 → a ≠ 7 → uF (uF (uF F 5 i 1) 6 i x) 7 i (S 1) a = F a := fun a h1 h2 h3 => by rw [uF_j _ _ _ _ h3, uF_j _ _ _ _ h2, uF_j _ _ _ _ h1]
  have e5 : uF (uF (uF F 5 i 1) 6 i x) 7 i (S 1) 5 i = 1 := by rw [uF_j _ _ _ _ (by decide), uF_j _ _ _ _ (by decide), uF_s]
  refine hm.row (i := i) (by omega) (fun k hk => ne k (by omega) (by omega) (by omega)) (fun a j hj => by rw [uF_i _ _ _ _ hj, uF_i _ _ _ _ hj, uF_i _ _ _ _ hj]) (by rw [eF 11 (by decide) (by decide) (by decide)]) (by rw [eF 12 (by decide) (by decide) (by decide)]) ?_
  obtain ⟨g1, g2, g3, g4, g5, g6, g7⟩ := hm.2.2.1 i hi
  refine ⟨fun a ha => ?_, ?_, ?_, ?_, fun e => ⟨?_, ?_⟩, fun e => absurd (e5.symm.trans e) (by decide), by rw [e5]; decide⟩
  · show w' _ = _
    rw [ne _ (by omega) (by omega) (by omega), eF a (by omega) (by omega) (by omega)]; exact g1 a ha
  · show w' _ = _
    rw [ne _ (by omega) (by omega) (by omega), eF 9 (by decide) (by decide) (by decide)]; exact g2
  · show w' _ = _
    rw [hw, if_neg (by omega), if_neg (by omega), if_pos rfl, e5]
  · show w' _ = _
    rw [ne _ (by omega) (by omega) (by omega), eF 10 (by decide) (by decide) (by decide)]; exact g4
  · show w' _ = _
    rw [hw, if_neg (by omega), if_pos rfl, uF_j _ _ _ _ (by decide), uF_s]
  · show w' _ = _
    rw [hw, if_pos rfl, uF_s]
/-- what the reference's settle leaves -/
def msP (B m n : Nat) (N : Nat) (S : Nat → Int32) (F' : Nat → Nat → Int32) (A0 : Nat → Nat → Int32) (Wy : Nat → Int64) (V : Nat → Int32) (a b : Nat) (h : HT) : Option Value → Nat → HT → Prop := fun r2 n2 h2 => r2 = none ∧ n2 = n ∧ ∃ A', h2 = wM B m A' Wy (vv V (nI a) (nI b)) h ∧ MW N S F' (A' 0) ∧ ∀ j, j ≠ 0 → A' j = A0 j
set_option maxHeartbeats 4000000 in
set_option maxRecDepth 100000 in
 theorem c9_settle {G : GC} {B n m : Nat} {A : Nat → Nat → Int32} {Wy : Nat → Int64} {V : Nat → Int32} {h : HT} {N : Nat} {S : Nat → Int32} {F : Nat → Nat → Int32} (hN : N ≤ 20) (hm : MW N S F (A 0)) (hT : stt S N 1000 F = true) : CtJ G B M9_settle [.ref (B + m)] n (wM B m A Wy V h) 0 0 (msP B m n N S (stl S N 1000 F) A Wy V (stlC 1 S N 1000 F) (stlC 5 S N 1000 F) h) := by
  unfold CtJ
  refine jj_lv (lv' := [some (.ref (B + m)), none, none, none, none]) rfl ?_
  refine jj_s (pc' := 1) rfl rfl ?_
  refine jj_s (pc' := 2) rfl rfl ?_
  refine jj_mpt rfl rfl rfl rfl rfl rfl ?_
  refine jj_s (pc' := 6) rfl rfl ?_
  refine jj_s (pc' := 7) rfl rfl ?_
  refine jj_mpt rfl rfl rfl rfl rfl rfl ?_
  refine jj_s (pc' := 11) rfl rfl ?_
  refine jj_s (pc' := 12) rfl rfl ?_
  have L : ∀ M (F : Nat → Nat → Int32) (A1 : Nat → Nat → Int32) (a b : Nat) z2 z3 z4, stt S N M F = true → MW N S F (A1 0) → (∀ j, j ≠ 0 → A1 j = A j) → JJ X0 G B M9_settle 12 [some (.ref (B + m)), some (.int 1), z2, z3, z4] [] n (wM B m A1 Wy (vv V (nI a) (nI b)) h) 0 0 (msP B m n N S (stl S N M F) A Wy V (a + stlC 1 S N M F) (b + stlC 5 S N M F) h) := by
    intro M
    induction M with
    | zero => intro F A1 a b z2 z3 z4 ht; cases ht
    | succ M ihM =>
      intro F A1 a b z2 z3 z4 ht hm1 hA1
      refine jj_s (pc' := 13) rfl rfl ?_
      refine jj_if_eq 134 rfl rfl (fun c => absurd c (by decide)) (fun c => ?_)
      refine jj_s (pc' := 17) rfl rfl ?_
      refine jj_s (pc' := 18) rfl rfl ?_
      refine jj_s (pc' := 19) rfl rfl ?_
      refine jj_s (pc' := 20) rfl rfl ?_
      have L2 : ∀ d k (A2 : Nat → Nat → Int32) z3 z4, k ≤ N → N + 1 ≤ k + d → MW N S (pas S N F k).1 (A2 0) → (∀ j, j ≠ 0 → A2 j = A j) → JJ X0 G B M9_settle 20 [some (.ref (B + m)), some (.int (bI (pas S N F k).2)), some (.int (nI k)), z3, z4] [] n (wM B m A2 Wy (vv V (nI (a + pasC 1 S N F k)) (nI (b + pasC 5 S N F k))) h) 0 0 (msP B m n N S (stl S N (M + 1) F) A Wy V (a + stlC 1 S N (M + 1) F) (b + stlC 5 S N (M + 1) F) h) := by
        intro d
        induction d with
        | zero => intro k A2 z3 z4 h1 h2; exact absurd h2 (by omega)
        | succ d ih =>
          intro k A2 z3 z4 h1 h2 hm2 hA2
          have hw0 := hm2.1
          refine jj_s (pc' := 21) rfl rfl ?_
          refine jj_s (pc' := 22) rfl rfl ?_
          refine jj_g rfl rfl wM_o rfl ?_
          refine jj_s (pc' := 26) rfl rfl ?_
          refine jj_m0 hw0 rfl ?_
          refine jj_geN 131 rfl rfl (by omega) (by omega) (fun c => ?_) (fun c => ?_)
          · have hk : k = N := by omega
            subst hk
            refine jj_s (pc' := 12) rfl rfl ?_
            cases hb : (pas S k F k).2 with
            | true =>
              have e : stl S k (M + 1) F = stl S k M (pas S k F k).1 := by rw [stl, if_pos hb]
              have e1 : ∀ t, stlC t S k (M + 1) F = pasC t S k F k + stlC t S k M (pas S k F k).1 := fun t => by rw [stlC, if_pos hb]
              have e2 : stt S k M (pas S k F k).1 = true := by rw [stt, if_pos hb] at ht; exact ht
              rw [e, e1, e1, ← Nat.add_assoc, ← Nat.add_assoc]
              exact ihM (pas S k F k).1 A2 _ _ _ _ _ e2 hm2 hA2
            | false =>
              have e : stl S k (M + 1) F = (pas S k F k).1 := by rw [stl, if_neg (by rw [hb]; decide)]
              have e1 : ∀ t, stlC t S k (M + 1) F = pasC t S k F k := fun t => by rw [stlC, if_neg (by rw [hb]; decide), Nat.add_zero]
              rw [e, e1, e1]
              refine jj_s (pc' := 13) rfl rfl ?_
              refine jj_if_eq 134 rfl rfl (fun c => ?_) (fun c => absurd rfl c)
              exact jj_vret rfl rfl ⟨rfl, rfl, A2, rfl, hm2, hA2⟩
          · have r := hm2.2.2.1 k c
            have hst : ofW (A2 0) k 8 = (pas S N F k).1 5 k := r.2.2.1
            have skip : ∀ z3 z4, si S N (pas S N F k).1 k = ((pas S N F k).1, false) → JJ X0 G B M9_settle 125 [some (.ref (B + m)), some (.int (bI (pas S N F k).2)), some (.int (nI k)), z3, z4] [] n (wM B m A2 Wy (vv V (nI (a + pasC 1 S N F k)) (nI (b + pasC 5 S N F k))) h) 0 0 (msP B m n N S (stl S N (M + 1) F) A Wy V (a + stlC 1 S N (M + 1) F) (b + stlC 5 S N (M + 1) F) h) := by
              intro z3 z4 hsi
              have e1 : pas S N F (k + 1) = ((pas S N F k).1, (pas S N F k).2) := by rw [pas, hsi, Bool.or_false]
              have e2 : ∀ t, pasC t S N F (k + 1) = pasC t S N F k := fun t => by rw [pasC, hsi]; rfl
              first | refine jj_inc rfl rfl ?_ | refine jj_s (pc' := 128) rfl rfl ?_
              refine jj_s (pc' := 20) rfl rfl ?_
              have := ih (k + 1) A2 z3 z4 (by omega) (by omega) (by rw [e1]; exact hm2) hA2
              rw [e2, e2, e1] at this
              exact this
            refine jj_s (pc' := 31) rfl rfl ?_
            refine jj_s (pc' := 32) rfl rfl ?_
            refine jj_s (pc' := 34) rfl rfl ?_
            refine jj_v2 rfl rfl rfl wM_o rfl rfl (c9_of (a := 8) (by omega) (by decide)) ?_
            rw [hst]
            refine jj_s (pc' := 38) rfl rfl ?_
            refine jj_s (pc' := 39) rfl rfl ?_
            refine jj_s (pc' := 40) rfl rfl ?_
            refine jj_icmp_gt 51 rfl rfl (fun (c2 : 1 < (pas S N F k).1 5 k) => ?_) (fun (c2 : ¬ 1 < (pas S N F k).1 5 k) => ?_)
            · refine jj_s (pc' := 52) rfl rfl ?_
              refine jj_s (pc' := 54) rfl rfl ?_
              refine jj_s (pc' := 56) rfl rfl ?_
              refine jj_s (pc' := 57) rfl rfl ?_
              refine jj_icmp_eq 125 rfl rfl (fun _ => skip _ _ ?_) (fun c3 => absurd rfl c3)
              rw [si, if_neg]
              rintro (q | q) <;> rw [q] at c2 <;> exact absurd c2 (by decide)
            · have c2 := le1_01 r.2.2.2.2.2.2 c2
              refine jj_s (pc' := 44) rfl rfl ?_
              refine jj_s (pc' := 45) rfl rfl ?_
              refine jj_v1 rfl rfl rfl wM_o rfl rfl (c9_due hN hm2 c) ?_
              refine jj_s (pc' := 52) rfl rfl ?_
              refine jj_s (pc' := 54) rfl rfl ?_
              refine jj_s (pc' := 56) rfl rfl ?_
              refine jj_s (pc' := 57) rfl rfl ?_
              refine jj_icmp_eq 125 rfl rfl (fun c3 => skip _ _ ?_) (fun c3 => ?_)
              · rw [si, if_pos c2, if_pos c3]
              · refine jj_s (pc' := 61) rfl rfl ?_
                refine jj_s (pc' := 62) rfl rfl ?_
                refine jj_s (pc' := 63) rfl rfl ?_
                refine jj_s (pc' := 64) rfl rfl ?_
                refine jj_s (pc' := 66) rfl rfl ?_
                refine jj_s (pc' := 68) rfl rfl ?_
                refine jj_w3 rfl rfl rfl wM_o rfl rfl (c9_set (a := 8) (by omega) (by decide) _) ?_
                refine jj_s (pc' := 73) rfl rfl ?_
                refine jj_s (pc' := 74) rfl rfl ?_
                refine jj_icmp_ne 105 rfl rfl (fun (c4 : ¬ due (pas S N F k).1 N k = 1) => ?_) (fun (c4 : due (pas S N F k).1 N k = 1) => ?_)
                · have hsi : si S N (pas S N F k).1 k = (uF (pas S N F k).1 5 k (due (pas S N F k).1 N k), true) := by rw [si, if_pos c2, if_neg c3, if_neg c4]
                  have e1 : pas S N F (k + 1) = (uF (pas S N F k).1 5 k (due (pas S N F k).1 N k), true) := by rw [pas, hsi, Bool.or_true]
                  have e2 : pasC 1 S N F (k + 1) = pasC 1 S N F k := by simp [pasC, hsi, uF_s, c4]
                  have hm3 : MW N S (pas S N F (k + 1)).1 (uF A2 0 (5 + 12 * k + 8) (due (pas S N F k).1 N k) 0) := by
                    rw [e1, uF_same]
                    refine hm2.st hN c ?_ c4 ?_
                    · rcases due_3 (pas S N F k).1 N k with q | q | q <;> rw [q] <;> decide
                    · rcases due_3 (pas S N F k).1 N k with q | q | q <;> rw [q] <;> decide
                  refine jj_s (pc' := 106) rfl rfl ?_
                  refine jj_s (pc' := 107) rfl rfl ?_
                  refine jj_g rfl rfl wM_o rfl ?_
                  refine jj_s (pc' := 112) rfl rfl ?_
                  refine jj_s (pc' := 113) rfl rfl ?_
                  refine jj_icmp_ne 120 rfl rfl (fun (c5 : ¬ due (pas S N F k).1 N k = 5) => ?_) (fun (c5 : due (pas S N F k).1 N k = 5) => ?_)
                  · have e3 : pasC 5 S N F (k + 1) = pasC 5 S N F k := by simp [pasC, hsi, uF_s, c5]
                    refine jj_s (pc' := 121) rfl rfl ?_
                    refine jj_s (pc' := 122) rfl rfl ?_
                    refine jj_mpt rfl rfl rfl rfl rfl rfl ?_
                    first | refine jj_inc rfl rfl ?_ | refine jj_s (pc' := 128) rfl rfl ?_
                    refine jj_s (pc' := 20) rfl rfl ?_
                    have := ih (k + 1) _ (some (.int ((pas S N F k).1 5 k))) (some (.int (due (pas S N F k).1 N k))) (by omega) (by omega) hm3 (fun j hj => by rw [uF_j _ _ _ _ hj]; exact hA2 j hj)
                    rw [e2, e3] at this
                    refine jj_h ?_ (jj_lv ?_ this)
                    · rw [vv8]; congr 2; exact Int32.add_zero _
                    · rw [e1]; rfl
                  · have e3 : pasC 5 S N F (k + 1) = pasC 5 S N F k + 1 := by simp [pasC, hsi, uF_s, c5]
                    refine jj_s (pc' := 117) rfl rfl ?_
                    refine jj_s (pc' := 121) rfl rfl ?_
                    refine jj_s (pc' := 122) rfl rfl ?_
                    refine jj_mpt rfl rfl rfl rfl rfl rfl ?_
                    first | refine jj_inc rfl rfl ?_ | refine jj_s (pc' := 128) rfl rfl ?_
                    refine jj_s (pc' := 20) rfl rfl ?_
                    have := ih (k + 1) _ (some (.int ((pas S N F k).1 5 k))) (some (.int (due (pas S N F k).1 N k))) (by omega) (by omega) hm3 (fun j hj => by rw [uF_j _ _ _ _ hj]; exact hA2 j hj)
                    rw [e2, e3] at this
                    refine jj_h ?_ (jj_lv ?_ this)
                    · rw [vv8, ← Nat.add_assoc, ← nI_1]; rfl
                    · rw [e1]; rfl
                · have hsi : si S N (pas S N F k).1 k = (uF (uF (uF (pas S N F k).1 5 k 1) 6 k (S 1 + (pas S N F k).1 4 k)) 7 k (S 1), true) := by rw [si, if_pos c2, if_neg c3, if_pos c4]
                  have e1 : pas S N F (k + 1) = (uF (uF (uF (pas S N F k).1 5 k 1) 6 k (S 1 + (pas S N F k).1 4 k)) 7 k (S 1), true) := by rw [pas, hsi, Bool.or_true]
                  have e5 : uF (uF (uF (pas S N F k).1 5 k 1) 6 k (S 1 + (pas S N F k).1 4 k)) 7 k (S 1) 5 k = 1 := by rw [uF_j _ _ _ _ (by decide), uF_j _ _ _ _ (by decide), uF_s]
                  have e2 : pasC 1 S N F (k + 1) = pasC 1 S N F k + 1 := by simp [pasC, hsi, e5]
                  have e3 : pasC 5 S N F (k + 1) = pasC 5 S N F k := by simp [pasC, hsi, e5]
                  rw [c4]
                  refine jj_s (pc' := 78) rfl rfl ?_
                  refine jj_s (pc' := 79) rfl rfl ?_
                  refine jj_s (pc' := 80) rfl rfl ?_
                  refine jj_g rfl rfl wM_o rfl ?_
                  refine jj_s (pc' := 84) rfl rfl ?_
                  refine jj_mld (i := 1) 645 rfl rfl (by decide) (by decide) ?_
                  rw [show uF A2 0 (5 + 12 * k + 8) 1 0 1 = S 1 by rw [uF_same, pk_un (by omega)]; exact hm2.2.1 1 (by omega) (by omega)]
                  refine jj_s (pc' := 86) rfl rfl ?_
                  refine jj_s (pc' := 87) rfl rfl ?_
                  refine jj_s (pc' := 88) rfl rfl ?_
                  refine jj_v2 rfl rfl rfl wM_o rfl rfl (c9_of (a := 4) (by omega) (by decide)) ?_
                  rw [show ofW (uF A2 0 (5 + 12 * k + 8) 1 0) k 4 = (pas S N F k).1 4 k by rw [uF_same]; show upd _ _ _ _ = _; rw [pk_un (by omega)]; exact r.1 4 (by omega)]
                  refine jj_s (pc' := 92) rfl rfl ?_
                  refine jj_w2 rfl rfl rfl wM_o rfl rfl (c9_becomesReady (by omega) _) ?_
                  refine jj_s (pc' := 96) rfl rfl ?_
                  refine jj_s (pc' := 97) rfl rfl ?_
                  refine jj_g rfl rfl wM_o rfl ?_
                  refine jj_s (pc' := 101) rfl rfl ?_
                  refine jj_s (pc' := 102) rfl rfl ?_
                  refine jj_mpt rfl rfl rfl rfl rfl rfl ?_
                  refine jj_s (pc' := 106) rfl rfl ?_
                  refine jj_s (pc' := 107) rfl rfl ?_
                  refine jj_g rfl rfl wM_o rfl ?_
                  refine jj_s (pc' := 112) rfl rfl ?_
                  refine jj_s (pc' := 113) rfl rfl ?_
                  refine jj_icmp_ne 120 rfl rfl (fun c5 => ?_) (fun c5 => absurd c5 (by decide))
                  refine jj_s (pc' := 121) rfl rfl ?_
                  refine jj_s (pc' := 122) rfl rfl ?_
                  refine jj_mpt rfl rfl rfl rfl rfl rfl ?_
                  first | refine jj_inc rfl rfl ?_ | refine jj_s (pc' := 128) rfl rfl ?_
                  refine jj_s (pc' := 20) rfl rfl ?_
                  have hm3 : MW N S (pas S N F (k + 1)).1 (brA (uF A2 0 (5 + 12 * k + 8) 1) k (S 1 + (pas S N F k).1 4 k) 0) := by
                    rw [e1]
                    refine hm2.rd hN c fun q => ?_
                    show uF _ 0 _ _ 0 q = _
                    rw [uF_same, uF_same, uF_same, uF_same, pk_un (show 1 ≠ 5 + 12 * k + 8 by omega), hm2.2.1 1 (by omega) (by omega)]
                    unfold upd
                    by_cases q1 : q = 5 + 12 * k + 10
                    · simp [q1]
                    · by_cases q2 : q = 5 + 12 * k + 6
                      · simp [q2]
                      · by_cases q3 : q = 5 + 12 * k + 8
                        · simp [q3]
                        · simp [q1, q2, q3]
                  have := ih (k + 1) _ (some (.int ((pas S N F k).1 5 k))) (some (.int 1)) (by omega) (by omega) hm3 (fun j hj => by unfold brA; rw [uF_j _ _ _ _ hj, uF_j _ _ _ _ hj, uF_j _ _ _ _ hj, uF_j _ _ _ _ hj]; exact hA2 j hj)
                  rw [e2, e3] at this
                  refine jj_h ?_ (jj_lv ?_ this)
                  · rw [vv7, vv8, ← Nat.add_assoc, ← nI_1]; congr 2; exact Int32.add_zero _
                  · rw [e1]; rfl
      exact L2 (N + 1) 0 A1 z3 z4 (by omega) (by omega) hm1 hA1
  have := L 1000 F A 0 0 none none none hT hm (fun j _ => rfl)
  rw [Nat.zero_add, Nat.zero_add] at this
  exact this
