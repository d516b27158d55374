/-! orders of both -/
/-- the open items, one after the other -/
def mmK (op : Int32) : Nat → Nat → Nat
  | 0 => fun _ => 0
  | k + 1 => if bt op k = true then va_up (mmK op k) (cn (bt op) k) k else mmK op k
theorem mmK_keep (op : Int32) (k d : Nat) : ∀ i, i < cn (bt op) k → mmK op (k + d) i = mmK op k i := by
  have mono : ∀ d, cn (bt op) k ≤ cn (bt op) (k + d) := fun d => by
    induction d with
    | zero => exact Nat.le_refl _
    | succ d ih => rw [← Nat.add_assoc, cn]; omega
  induction d with
  | zero => intro i _; rfl
  | succ d ih =>
    intro i hi
    have := mono d
    rw [← Nat.add_assoc, mmK]
    split
    next => rw [va_up_n (by omega)]; exact ih i hi
    next => exact ih i hi
theorem mmK_at (op : Int32) (k : Nat) : ∀ i, i < cn (bt op) k → mmK op k i < k ∧ bt op (mmK op k i) = true := by
  induction k with
  | zero => intro i h; exact absurd h (by unfold cn; omega)
  | succ k ih =>
    intro i hi
    unfold mmK
    unfold cn at hi
    split
    next hb =>
      rw [if_pos hb] at hi
      by_cases e : i = cn (bt op) k
      · subst e; rw [va_up_s]; exact ⟨by omega, hb⟩
      · rw [va_up_n e]; have := ih i (by omega); exact ⟨by omega, this.2⟩
    next hb =>
      rw [if_neg hb] at hi
      have := ih i (by omega); exact ⟨by omega, this.2⟩
abbrev mmO (op : Int32) : Nat → Nat := mmK op 20
theorem lmK_at (op : Int32) (mb : Nat → Int32) (k : Nat) (hk : k ≤ 20) : (lmK op mb k).2 = min (cn (bt op) k) 12 ∧ ∀ i, i < (lmK op mb k).2 → (lmK op mb k).1 i = nI (mmO op i) := by
  induction k with
  | zero => exact ⟨rfl, fun i hi => absurd hi (by unfold lmK; omega)⟩
  | succ k ih =>
    obtain ⟨i1, i2⟩ := ih (by omega)
    by_cases hb : bt op k = true
    · by_cases h12 : (lmK op mb k).2 < 12
      · rw [lmK, if_pos ⟨hb, h12⟩, cn, if_pos hb]
        refine ⟨by show (lmK op mb k).2 + 1 = _; omega, fun i hi => ?_⟩
        have hi : i < (lmK op mb k).2 + 1 := hi
        show upd (lmK op mb k).1 (lmK op mb k).2 (nI k) i = _
        by_cases e : i = (lmK op mb k).2
        · subst e
          rw [pk_us]
          have h1 := mmK_keep op (k + 1) (20 - (k + 1)) (cn (bt op) k) (by rw [cn, if_pos hb]; omega)
          have h2 : mmK op (k + 1) (cn (bt op) k) = k := by rw [mmK, if_pos hb, va_up_s]
          rw [show k + 1 + (20 - (k + 1)) = 20 by omega, h2] at h1
          rw [show (lmK op mb k).2 = cn (bt op) k by omega]
          show nI k = nI (mmK op 20 (cn (bt op) k))
          rw [h1]
        · rw [pk_un e]; exact i2 i (by omega)
      · rw [lmK, if_neg (fun z => h12 z.2), cn, if_pos hb]
        exact ⟨by omega, i2⟩
    · rw [lmK, if_neg (fun z => hb z.1), cn, if_neg hb]
      exact ⟨by omega, i2⟩
def YF (F : Nat → Nat → Int32) (N : Nat) (i k : Nat) : Bool := bt (bfN F N (mmO (une F N) i)) (mmO (une F N) k)
def ordW (F : Nat → Nat → Int32) (N : Nat) (T : Nat) : Int64 := cwK (fun k => msk (YF F N k) (cn (bt (une F N)) 20)) (cn (bt (une F N)) 20) (fun _ => 0) T T
def ordV (F : Nat → Nat → Int32) (N : Nat) : Int64 := ordW F N (2 ^ cn (bt (une F N)) 20 - 1)
section
variable {F : Nat → Nat → Int32} {N : Nat}
theorem le12 (hN : N ≤ 20) (hop1 : ∀ i, bt (une F N) i = true → i < N) : bcF (une F N) ≤ 12 ↔ cn (bt (une F N)) 20 ≤ 12 := by
  rw [bcF_cn (fun i hi => by have := hop1 i hi; omega)]
  have := cn_le (bt (une F N)) 20
  exact nI_leI (b := 12) (by omega) (by omega)
theorem ordW_OEq (h12 : cn (bt (une F N)) 20 ≤ 12) : OEq (YF F N) (cn (bt (une F N)) 20) (ordW F N) := cwK_OEq h12 (fun k _ => rfl) _
theorem lnK_at (bf : Nat → Int32) (mm : Nat → Nat) (c : Nat) (nd : Nat → Int32) (i : Nat) : ∀ k, k < i → lnK bf mm c nd i k = msk (fun j => bt (bf (mm k)) (mm j)) c := by
  induction i with
  | zero => intro k h; omega
  | succ i ih =>
    intro k h
    unfold lnK
    by_cases e : k = i
    · subst e; exact pk_us
    · rw [pk_un e]; exact ih k (by omega)
theorem orders_class (hN : N ≤ 20) (hop1 : ∀ i, bt (une F N) i = true → i < N) : (∀ mb i, i < (lmK (une F N) mb 20).2 → (lmK (une F N) mb 20).1 i = nI (mmO (une F N) i) ∧ mmO (une F N) i < 20) ∧ (bcF (une F N) ≤ 12 → ∀ b2 w mb nd, (∀ i, i < N → b2 i = bfN F N i) → cwK (lnK b2 (mmO (une F N)) (lmK (une F N) mb 20).2 nd (lmK (une F N) mb 20).2) (lmK (une F N) mb 20).2 w (2 ^ (lmK (une F N) mb 20).2 - 1) (2 ^ (lmK (une F N) mb 20).2 - 1) = ordV F N) := by
  refine ⟨fun mb i hi => ?_, fun hb b2 w mb nd hbf => ?_⟩
  · obtain ⟨h1, h2⟩ := lmK_at (une F N) mb 20 (Nat.le_refl _)
    exact ⟨h2 i hi, (mmK_at (une F N) 20 i (by omega)).1⟩
  · have h12 := (le12 hN hop1).mp hb
    obtain ⟨h1, h2⟩ := lmK_at (une F N) mb 20 (Nat.le_refl _)
    rw [show (lmK (une F N) mb 20).2 = cn (bt (une F N)) 20 by omega]
    have hO := cwK_OEq (Y := YF F N) (nd := lnK b2 (mmO (une F N)) (cn (bt (une F N)) 20) nd (cn (bt (une F N)) 20)) h12 (fun k hk => by
      rw [lnK_at _ _ _ _ _ k hk, hbf _ (hop1 _ (mmK_at (une F N) 20 k hk).2)]
      rfl) w
    have : 0 < 2 ^ cn (bt (une F N)) 20 := Nat.two_pow_pos _
    exact OEq_uniq hO (ordW_OEq h12) _ (by omega)
end
theorem bI_and (a b : Bool) : bI a &&& bI b = bI (a && b) := by cases a <;> cases b <;> decide
theorem pow12 : ∀ c, c ≤ 12 → bit c = nI (2 ^ c) := by decide +kernel
set_option maxHeartbeats 4000000 in
set_option maxRecDepth 100000 in
 theorem c9_isLast {G : GC} {B n m : Nat} {A : Nat → Nat → Int32} {Wy : Nat → Int64} {V : Nat → Int32} {h : HT} {F : Nat → Nat → Int32} {N c s k0 : Nat} (hc : c ≤ 12) (hcc : c ≤ cn (bt (une F N)) 20) (hs : s < 4096) (hk0 : k0 < c) (hop1 : ∀ i, bt (une F N) i = true → i < N) (hN : N ≤ 20) (h7 : ∀ i, i < N → A 7 i = bfN F N i) (h14 : ∀ i, i < c → A 14 i = nI (mmO (une F N) i)) : CtJ G B M9_isLast [.ref (B + m), .int (nI (mmO (une F N) k0)), .int (nI s), .int (nI c)] n (wM B m A Wy V h) 0 0 (eqP (some (.int (bI (isL (YF F N) c k0 s)))) n (wM B m A Wy V h)) := by
  have hmm : ∀ i, i < c → mmO (une F N) i < N := fun i hi => hop1 _ (mmK_at (une F N) 20 i (by omega)).2
  have hm0 := hmm k0 hk0
  unfold CtJ
  refine jj_lv (lv' := [some (.ref (B + m)), some (.int (nI (mmO (une F N) k0))), some (.int (nI s)), some (.int (nI c)), none, none, none]) rfl ?_
  refine jj_s (pc' := 1) rfl rfl ?_
  refine jj_s (pc' := 3) rfl rfl ?_
  refine jj_s (pc' := 4) rfl rfl ?_
  refine jj_s (pc' := 6) rfl rfl ?_
  refine jj_lv (lv' := [some (.ref (B + m)), some (.int (nI (mmO (une F N) k0))), some (.int (nI s)), some (.int (nI c)), some (.int (bI (alN (fun j => if s.testBit j = true then !YF F N j k0 else !YF F N k0 j) 0))), some (.int (nI 0)), none]) rfl ?_
  have L1 : ∀ d k z6, k ≤ c → c + 1 ≤ k + d → JJ X0 G B M9_isLast 6 [some (.ref (B + m)), some (.int (nI (mmO (une F N) k0))), some (.int (nI s)), some (.int (nI c)), some (.int (bI (alN (fun j => if s.testBit j = true then !YF F N j k0 else !YF F N k0 j) k))), some (.int (nI k)), z6] [] n (wM B m A Wy V h) 0 0 (eqP (some (.int (bI (isL (YF F N) c k0 s)))) n (wM B m A Wy V h)) := by
    intro d
    induction d with
    | zero => intro k z6 h1 h2; exact absurd h2 (by omega)
    | succ d ih =>
      intro k z6 h1 h2
      refine jj_s (pc' := 8) rfl rfl ?_
      refine jj_s (pc' := 9) rfl rfl ?_
      refine jj_geN 96 rfl rfl (by omega) (by omega) (fun c1 => ?_) (fun c1 => ?_)
      · refine jj_s (pc' := 98) rfl rfl ?_
        exact jj_zret rfl rfl (bI_01 _) ⟨by rw [show k = c by omega]; rfl, rfl, rfl⟩
      · have hmk := hmm k c1
        have go : ∀ (b : Bool) z6, b = (if s.testBit k = true then !YF F N k k0 else !YF F N k0 k) → JJ X0 G B M9_isLast 87 [some (.ref (B + m)), some (.int (nI (mmO (une F N) k0))), some (.int (nI s)), some (.int (nI c)), some (.int (bI (alN (fun j => if s.testBit j = true then !YF F N j k0 else !YF F N k0 j) k))), some (.int (nI k)), z6] [.int (bI b), .int (bI (alN (fun j => if s.testBit j = true then !YF F N j k0 else !YF F N k0 j) k))] n (wM B m A Wy V h) 0 0 (eqP (some (.int (bI (isL (YF F N) c k0 s)))) n (wM B m A Wy V h)) := by
          intro b z6 hb
          subst hb
          refine jj_s (pc' := 88) rfl rfl ?_
          refine jj_s (pc' := 90) rfl rfl ?_
          first | refine jj_inc rfl rfl ?_ | refine jj_s (pc' := 93) rfl rfl ?_
          refine jj_s (pc' := 6) rfl rfl ?_
          refine jj_lv ?_ (ih (k + 1) z6 (by omega) (by omega))
          rw [alN, ← bI_and]; rfl
        refine jj_s (pc' := 13) rfl rfl ?_
        refine jj_s (pc' := 15) rfl rfl ?_
        refine jj_s (pc' := 16) rfl rfl ?_
        refine jj_s (pc' := 17) rfl rfl ?_
        refine jj_s (pc' := 18) rfl rfl ?_
        refine jj_s (pc' := 19) rfl rfl ?_
        refine jj_st (st' := [.int 1, .int (bI (s.testBit k))]) (by rw [← bt_nI (by omega), ← b_has (show k < 32 by omega)]; rfl) ?_
        refine jj_icmp_ne 26 rfl rfl (fun c2 => ?_) (fun c2 => ?_)
        · have c2 : s.testBit k = false := by
            cases hz : s.testBit k
            · rfl
            · rw [hz] at c2; exact absurd rfl c2
          refine jj_s (pc' := 27) rfl rfl ?_
          refine jj_s (pc' := 29) rfl rfl ?_
          refine jj_s (pc' := 31) rfl rfl ?_
          refine jj_s (pc' := 33) rfl rfl ?_
          refine jj_if_eq 63 rfl rfl (fun _ => ?_) (fun c3 => absurd rfl c3)
          refine jj_s (pc' := 64) rfl rfl ?_
          refine jj_g rfl rfl wM_o rfl ?_
          refine jj_s (pc' := 68) rfl rfl ?_
          refine jj_mld (j := 7) 20 rfl rfl (by decide) (by omega) ?_
          rw [h7 _ hm0]
          refine jj_s (pc' := 70) rfl rfl ?_
          refine jj_g rfl rfl wM_o rfl ?_
          refine jj_s (pc' := 75) rfl rfl ?_
          refine jj_mld 20 rfl rfl (by decide) (by first | assumption | omega) ?_
          rw [h14 k c1]
          refine jj_s (pc' := 77) rfl rfl ?_
          refine jj_s (pc' := 78) rfl rfl ?_
          refine jj_s (pc' := 79) rfl rfl ?_
          refine jj_st (st' := [.int (bI (YF F N k0 k)), .int (bI (alN (fun j => if s.testBit j = true then !YF F N j k0 else !YF F N k0 j) k))]) (by unfold YF; rw [← b_has (show mmO (une F N) k < 32 by omega)]; rfl) ?_
          refine jj_zF 86 rfl rfl (fun c4 => ?_) (fun c4 => ?_)
          · refine jj_s (pc' := 87) rfl rfl ?_
            exact go false _ (by rw [c2, if_neg (by decide), c4]; rfl)
          · refine jj_s (pc' := 83) rfl rfl ?_
            refine jj_s (pc' := 87) rfl rfl ?_
            exact go true _ (by rw [c2, if_neg (by decide), c4]; rfl)
        · have c2 := bI_1.mp c2
          refine jj_s (pc' := 23) rfl rfl ?_
          refine jj_s (pc' := 27) rfl rfl ?_
          refine jj_s (pc' := 29) rfl rfl ?_
          refine jj_s (pc' := 31) rfl rfl ?_
          refine jj_s (pc' := 33) rfl rfl ?_
          refine jj_if_eq 63 rfl rfl (fun c3 => absurd c3 (by decide)) (fun _ => ?_)
          refine jj_s (pc' := 37) rfl rfl ?_
          refine jj_g rfl rfl wM_o rfl ?_
          refine jj_s (pc' := 41) rfl rfl ?_
          refine jj_g rfl rfl wM_o rfl ?_
          refine jj_s (pc' := 46) rfl rfl ?_
          refine jj_mld 20 rfl rfl (by decide) (by first | assumption | omega) ?_
          rw [h14 k c1]
          refine jj_mld (j := 7) 20 rfl rfl (by decide) (by omega) ?_
          rw [h7 _ hmk]
          refine jj_s (pc' := 49) rfl rfl ?_
          refine jj_s (pc' := 50) rfl rfl ?_
          refine jj_s (pc' := 51) rfl rfl ?_
          refine jj_s (pc' := 52) rfl rfl ?_
          refine jj_st (st' := [.int (bI (YF F N k k0)), .int (bI (alN (fun j => if s.testBit j = true then !YF F N j k0 else !YF F N k0 j) k))]) (by unfold YF; rw [← b_has (show mmO (une F N) k0 < 32 by omega)]; rfl) ?_
          refine jj_zF 59 rfl rfl (fun c4 => ?_) (fun c4 => ?_)
          · refine jj_s (pc' := 60) rfl rfl ?_
            refine jj_s (pc' := 87) rfl rfl ?_
            exact go false _ (by rw [c2, if_pos rfl, c4]; rfl)
          · refine jj_s (pc' := 56) rfl rfl ?_
            refine jj_s (pc' := 87) rfl rfl ?_
            exact go true _ (by rw [c2, if_pos rfl, c4]; rfl)
  exact L1 (c + 1) 0 none (by omega) (by omega)
theorem tw_l9 : Cond.constantLong RX9 161 (-4) ∈ tW := tm5 82 rfl rfl
theorem rm_nI {s k : Nat} (hs : s < 4096) (hk : k < 12) (hb : s.testBit k = true) : nI s &&& (bit k ^^^ -1) = nI (rm s k) := b_ext fun j _ => by
  have := rm_lt hb
  rw [b_drop (by omega), bt_nI (by omega), bt_nI (by omega), rm_bit]
  by_cases e : j = k
  · subst e; rw [decide_eq_true (rfl : j = j), hb]; rfl
  · rw [decide_eq_false e, decide_eq_false (fun q => e q.symm)]; simp
set_option maxHeartbeats 4000000 in
set_option maxRecDepth 100000 in
 theorem m_orders {G : GC} {B n m N : Nat} {S : Nat → Int32} {F : Nat → Nat → Int32} {L : Nat} {pt : Nat → Int32} {len : Nat} {C : Nat → Int32} {sv : Nat → Option (Nat × (Nat → Int32) × (Nat → Nat → Int32))} {h : HT} (hN : N ≤ 20) (hM : ML B m N S F L pt len C sv h) (hG : Gr N F) : CtJ G B M9_orders [.ref (B + m)] n h 0 0 (fun r2 n2 h2 => r2 = some (.long (if bcF (une F N) ≤ 12 then ordV F N else -4)) ∧ n2 = n ∧ ML B m N S F L pt len C sv h2 ∧ tk m h h2) := by
  obtain ⟨⟨rk, hr, hk⟩, hw, hB⟩ := hG
  obtain ⟨A, Wy, V, hh, ha⟩ := hM
  have hw0 := ha.1.1
  have fin0 : ML B m N S F L pt len C sv (wM B m A Wy V h) ∧ tk m h (wM B m A Wy V h) := MLa.fin ha
  unfold CtJ
  refine jj_lv (lv' := [some (.ref (B + m)), none, none, none]) rfl ?_
  refine jj_h hh ?_
  have hs : ∀ i, i < N → 0 ≤ F 5 i := fun i hi => (ha.1.2.2.1 i hi).2.2.2.2.2.2
  have hop := bt_une (F := F) hN hs
  have hop1 : ∀ i, bt (une F N) i = true → i < N := fun i hi => by rw [hop, Bool.and_eq_true, decide_eq_true_eq] at hi; exact hi.1
  have hcN : cn (bt (une F N)) 20 = cn (bt (une F N)) N := cn_cut hN (fun i _ hi => by
    cases hb : bt (une F N) i with
    | false => rfl
    | true => have := hop1 i hb; omega)
  have hYY : ∀ k, k < (cn (bt (une F N)) 20) → (YF F N) k k = false := fun k hk' => by
    have h1 := mmK_at (une F N) 20 k hk'
    have h2 := hop1 _ h1.2
    cases hb : (YF F N) k k with
    | false => rfl
    | true => exact absurd (Bf.rk hr (bfN_Bf hB) _ h2 _ hb).2 (Nat.lt_irrefl _)
  refine jj_s (pc' := 1) rfl rfl ?_
  refine jj_s (pc' := 2) rfl rfl ?_
  refine jj_s (pc' := 3) rfl rfl ?_
  refine jj_s (pc' := 4) rfl rfl ?_
  have L1 : ∀ d k (A2 : Nat → Nat → Int32), k ≤ N → N + 1 ≤ k + d → (∀ i, i < cn (bt (une F N)) k → A2 14 i = nI (mmO (une F N) i)) → (∀ j, j ≠ 14 → A2 j = A j) → JJ X0 G B M9_orders 4 [some (.ref (B + m)), some (.int (nI (cn (bt (une F N)) k))), some (.int (nI k)), none] [] n (wM B m A2 Wy V h) 0 0 (fun r2 n2 h2 => r2 = some (.long (if bcF (une F N) ≤ 12 then ordV F N else -4)) ∧ n2 = n ∧ ML B m N S F L pt len C sv h2 ∧ tk m h h2) := by
    intro d
    induction d with
    | zero => intro k A2 h1 h2; exact absurd h2 (by omega)
    | succ d ih =>
      intro k A2 h1 h2 h14 hA2
      have ha2 := ha.sc (A' := A2) (fun j hj => hA2 j (by omega))
      have hw0 := ha2.1.1
      have hcle := cn_le (bt (une F N)) k
      refine jj_s (pc' := 5) rfl rfl ?_
      refine jj_s (pc' := 6) rfl rfl ?_
      refine jj_g rfl rfl wM_o rfl ?_
      refine jj_s (pc' := 10) rfl rfl ?_
      refine jj_m0 hw0 rfl ?_
      refine jj_geN 38 rfl rfl (by omega) (by omega) (fun c => ?_) (fun c => ?_)
      · have hkN : N = k := by omega
        subst hkN
        rw [← hcN]
        rw [← hcN] at h14 hcle
        have h14c := h14
        refine jj_s (pc' := 39) rfl rfl ?_
        refine jj_s (pc' := 41) rfl rfl ?_
        refine jj_icmp_le 48 rfl rfl (fun c1 => ?_) (fun c1 => ?_)
        · have c1 : (cn (bt (une F N)) 20) ≤ 12 := (nI_leI (a := (cn (bt (une F N)) 20)) (b := 12) (by omega) (by omega)).mp c1
          rw [if_pos ((le12 hN hop1).mpr c1)]
          have hE := ordW_OEq c1
          refine jj_s (pc' := 49) rfl rfl ?_
          refine jj_vp0 rfl rfl rfl wM_o rfl rfl (c9_layAhead hN ha2.1 hr hk hB) (fun r n' h' q => ?_)
          obtain ⟨rfl, rfl, A3, rfl, hA3, h7⟩ := q
          have ha3 := ha2.sc (A' := A3) (fun j hj => hA3 j (by omega))
          have h14 : ∀ i, i < (cn (bt (une F N)) 20) → A3 14 i = nI (mmO (une F N) i) := fun i hi => by rw [hA3 14 (by decide)]; exact h14 i hi
          have hOE : ∀ T, T < 2 ^ (cn (bt (une F N)) 20) → ordW F N T = Sm (bs0 T) (fun i => T.testBit i && isL (YF F N) (cn (bt (une F N)) 20) i T) (fun i => ordW F N (rm T i)) (cn (bt (une F N)) 20) := by
            intro T hT
            have h1 := OEq_last (Y := fun a b => decide (a < (cn (bt (une F N)) 20)) && YF F N a b) (c := (cn (bt (une F N)) 20)) (u := ordW F N) (fun q => by
              by_cases z : q < (cn (bt (une F N)) 20)
              · rw [hYY q z]; simp
              · rw [decide_eq_false z]; rfl) (fun T hT => by
              rw [hE T hT]
              refine Sm_cong (fun q hq => ?_)
              have : sbY (fun a b => decide (a < (cn (bt (une F N)) 20)) && YF F N a b) (cn (bt (une F N)) 20) q (rm T q) = sbY (YF F N) (cn (bt (une F N)) 20) q (rm T q) := by
                unfold sbY
                show alN (fun j => !(decide (q < (cn (bt (une F N)) 20)) && YF F N q j) || (rm T q).testBit j) (cn (bt (une F N)) 20) = _
                rw [decide_eq_true hq]; rfl
              rw [this]) hT
            rw [h1]
            refine Sm_cong (fun q hq => ?_)
            have : isL (fun a b => decide (a < (cn (bt (une F N)) 20)) && YF F N a b) (cn (bt (une F N)) 20) q T = isL (YF F N) (cn (bt (une F N)) 20) q T := by
              have e : ∀ n, n ≤ (cn (bt (une F N)) 20) → alN (fun j => if T.testBit j = true then !(decide (j < (cn (bt (une F N)) 20)) && YF F N j q) else !(decide (q < (cn (bt (une F N)) 20)) && YF F N q j)) n = alN (fun j => if T.testBit j = true then !YF F N j q else !YF F N q j) n := by
                intro n
                induction n with
                | zero => intro _; rfl
                | succ n ihn =>
                  intro hn
                  rw [alN, alN, ihn (by omega), decide_eq_true (show n < (cn (bt (une F N)) 20) by omega), decide_eq_true hq]
                  simp
              exact e _ (Nat.le_refl _)
            rw [this]
          obtain ⟨p1, p2, p3⟩ := all_nI c1
          refine jj_s (pc' := 53) rfl rfl ?_
          refine jj_s (pc' := 54) rfl rfl ?_
          have L2 : ∀ e s (Wy2 : Nat → Int64) z3, s + e = 2 ^ (cn (bt (une F N)) 20) → (∀ T, T < s → Wy2 T = ordW F N T) → JJ X0 G B M9_orders 54 [some (.ref (B + m)), some (.int (nI (cn (bt (une F N)) 20))), some (.int (nI s)), z3] [] n' (wM B m A3 Wy2 V h) 0 0 (fun r2 n2 h2 => r2 = some (.long (ordV F N)) ∧ n2 = n' ∧ ML B m N S F L pt len C sv h2 ∧ tk m h h2) := by
            intro e
            induction e with
            | zero =>
              intro s Wy2 z3 hs hWy
              have hs : s = 2 ^ (cn (bt (une F N)) 20) := by omega
              subst hs
              refine jj_s (pc' := 55) rfl rfl ?_
              refine jj_s (pc' := 56) rfl rfl ?_
              refine jj_s (pc' := 57) rfl rfl ?_
              refine jj_s (pc' := 58) rfl rfl ?_
              refine jj_st (st' := [.int (nI (2 ^ (cn (bt (une F N)) 20))), .int (nI (2 ^ (cn (bt (une F N)) 20)))]) (by rw [← pow12 _ c1]; rfl) ?_
              refine jj_geN 140 rfl rfl (by omega) (by omega) (fun _ => ?_) (fun q => absurd q (by omega))
              refine jj_s (pc' := 141) rfl rfl ?_
              refine jj_g rfl rfl wM_o rfl ?_
              refine jj_s (pc' := 145) rfl rfl ?_
              refine jj_s (pc' := 146) rfl rfl ?_
              refine jj_s (pc' := 147) rfl rfl ?_
              refine jj_s (pc' := 148) rfl rfl ?_
              refine jj_s (pc' := 149) rfl rfl ?_
              refine jj_st (st' := [.int (nI (2 ^ (cn (bt (une F N)) 20) - 1)), .ref (B + (m + 14))]) (by rw [← p1]; rfl) ?_
              refine jj_laldN rfl wM_w (by omega) rfl ?_
              exact jj_lret rfl rfl ⟨by rw [hWy _ (by omega)]; rfl, rfl, MLa.fin ha3⟩
            | succ e ih2 =>
              intro s Wy2 z3 hs hWy
              have hs4 : s < 4096 := by omega
              refine jj_s (pc' := 55) rfl rfl ?_
              refine jj_s (pc' := 56) rfl rfl ?_
              refine jj_s (pc' := 57) rfl rfl ?_
              refine jj_s (pc' := 58) rfl rfl ?_
              refine jj_st (st' := [.int (nI (2 ^ (cn (bt (une F N)) 20))), .int (nI s)]) (by rw [← pow12 _ c1]; rfl) ?_
              refine jj_geN 140 rfl rfl (by omega) (by omega) (fun q => absurd q (by omega)) (fun _ => ?_)
              have L3 : ∀ d2 i (Wy3 : Nat → Int64), i ≤ (cn (bt (une F N)) 20) → (cn (bt (une F N)) 20) + 1 ≤ i + d2 → (∀ T, T < s → Wy3 T = ordW F N T) → Wy3 s = Sm (bs0 s) (fun i => s.testBit i && isL (YF F N) (cn (bt (une F N)) 20) i s) (fun i => ordW F N (rm s i)) i → JJ X0 G B M9_orders 78 [some (.ref (B + m)), some (.int (nI (cn (bt (une F N)) 20))), some (.int (nI s)), some (.int (nI i))] [] n' (wM B m A3 Wy3 V h) 0 0 (fun r2 n2 h2 => r2 = some (.long (ordV F N)) ∧ n2 = n' ∧ ML B m N S F L pt len C sv h2 ∧ tk m h h2) := by
                intro d2
                induction d2 with
                | zero => intro i Wy3 g1 g2; exact absurd g2 (by omega)
                | succ d2 ih3 =>
                  intro i Wy3 g1 g2 w1 w2
                  refine jj_s (pc' := 79) rfl rfl ?_
                  refine jj_s (pc' := 80) rfl rfl ?_
                  refine jj_geN 134 rfl rfl (by omega) (by omega) (fun ci => ?_) (fun ci => ?_)
                  · have hic : i = (cn (bt (une F N)) 20) := by omega
                    first | refine jj_inc rfl rfl ?_ | refine jj_s (pc' := 137) rfl rfl ?_
                    refine jj_s (pc' := 54) rfl rfl ?_
                    refine ih2 (s + 1) Wy3 _ (by omega) (fun T hT => ?_)
                    by_cases e : T = s
                    · subst e; rw [w2, hic]; exact (hOE T (by omega)).symm
                    · exact w1 T (by omega)
                  · have no : (s.testBit i && isL (YF F N) (cn (bt (une F N)) 20) i s) = false → JJ X0 G B M9_orders 128 [some (.ref (B + m)), some (.int (nI (cn (bt (une F N)) 20))), some (.int (nI s)), some (.int (nI i))] [] n' (wM B m A3 Wy3 V h) 0 0 (fun r2 n2 h2 => r2 = some (.long (ordV F N)) ∧ n2 = n' ∧ ML B m N S F L pt len C sv h2 ∧ tk m h h2) := by
                      intro hz
                      first | refine jj_inc rfl rfl ?_ | refine jj_s (pc' := 131) rfl rfl ?_
                      refine jj_s (pc' := 78) rfl rfl ?_
                      exact ih3 (i + 1) Wy3 (by omega) (by omega) w1 (by rw [w2, Sm, if_neg (by rw [hz]; decide)])
                    refine jj_s (pc' := 84) rfl rfl ?_
                    refine jj_s (pc' := 85) rfl rfl ?_
                    refine jj_s (pc' := 86) rfl rfl ?_
                    refine jj_s (pc' := 87) rfl rfl ?_
                    refine jj_s (pc' := 88) rfl rfl ?_
                    refine jj_s (pc' := 89) rfl rfl ?_
                    refine jj_st (st' := [.int 1, .int (bI (s.testBit i))]) (by rw [← bt_nI (by omega), ← b_has (show i < 32 by omega)]; rfl) ?_
                    refine jj_icmp_ne 128 rfl rfl (fun c2 => no ?_) (fun c2 => ?_)
                    · cases hz : s.testBit i
                      · rfl
                      · rw [hz] at c2; exact absurd rfl c2
                    · have c2 := bI_1.mp c2
                      refine jj_s (pc' := 93) rfl rfl ?_
                      refine jj_s (pc' := 94) rfl rfl ?_
                      refine jj_g rfl rfl wM_o rfl ?_
                      refine jj_s (pc' := 98) rfl rfl ?_
                      refine jj_mld 20 rfl rfl (by decide) (by first | assumption | omega) ?_
                      rw [h14 i ci]
                      refine jj_s (pc' := 100) rfl rfl ?_
                      refine jj_s (pc' := 101) rfl rfl ?_
                      refine jj_v3 rfl rfl rfl wM_o rfl rfl (c9_isLast (F := F) (N := N) (c := (cn (bt (une F N)) 20)) (s := s) (k0 := i) c1 (Nat.le_refl _) hs4 ci hop1 hN h7 h14) ?_
                      refine jj_zT 128 rfl rfl (fun c3 => no (by rw [c2, c3]; rfl)) (fun c3 => ?_)
                      have hlt := rm_lt c2
                      refine jj_s (pc' := 108) rfl rfl ?_
                      refine jj_g rfl rfl wM_o rfl ?_
                      refine jj_s (pc' := 112) rfl rfl ?_
                      refine jj_s (pc' := 113) rfl rfl ?_
                      refine jj_laldN rfl wM_w (by omega) rfl ?_
                      refine jj_s (pc' := 115) rfl rfl ?_
                      refine jj_g rfl rfl wM_o rfl ?_
                      refine jj_s (pc' := 119) rfl rfl ?_
                      refine jj_s (pc' := 120) rfl rfl ?_
                      refine jj_s (pc' := 121) rfl rfl ?_
                      refine jj_s (pc' := 122) rfl rfl ?_
                      refine jj_s (pc' := 123) rfl rfl ?_
                      refine jj_s (pc' := 124) rfl rfl ?_
                      refine jj_s (pc' := 125) rfl rfl ?_
                      refine jj_st (st' := [.int (nI (rm s i)), .ref (B + (m + 14)), .long (Wy3 s), .int (nI s), .ref (B + (m + 14))]) (by rw [← rm_nI hs4 (by omega) c2]; rfl) ?_
                      refine jj_laldN rfl wM_w (by omega) rfl ?_
                      refine jj_s (pc' := 127) rfl rfl ?_
                      refine jj_lastN rfl wM_w (by omega) rfl (jj_h wM_wput ?_)
                      first | refine jj_inc rfl rfl ?_ | refine jj_s (pc' := 131) rfl rfl ?_
                      refine jj_s (pc' := 78) rfl rfl ?_
                      refine ih3 (i + 1) _ (by omega) (by omega) (fun T hT => by rw [vpL_n (by omega)]; exact w1 T hT) ?_
                      rw [vpL_s, w2, w1 _ hlt, Sm, if_pos (by rw [c2, c3]; rfl)]
              have go : ∀ x, x = bs0 s → JJ X0 G B M9_orders 75 [some (.ref (B + m)), some (.int (nI (cn (bt (une F N)) 20))), some (.int (nI s)), z3] [.long x, .int (nI s), .ref (B + (m + 14))] n' (wM B m A3 Wy2 V h) 0 0 (fun r2 n2 h2 => r2 = some (.long (ordV F N)) ∧ n2 = n' ∧ ML B m N S F L pt len C sv h2 ∧ tk m h h2) := by
                intro x hx
                subst hx
                refine jj_lastN rfl wM_w (by omega) rfl (jj_h wM_wput ?_)
                refine jj_s (pc' := 77) rfl rfl ?_
                refine jj_s (pc' := 78) rfl rfl ?_
                exact L3 ((cn (bt (une F N)) 20) + 1) 0 _ (by omega) (by omega) (fun T hT => by rw [vpL_n (by omega)]; exact hWy T hT) vpL_s
              refine jj_s (pc' := 62) rfl rfl ?_
              refine jj_g rfl rfl wM_o rfl ?_
              refine jj_s (pc' := 66) rfl rfl ?_
              refine jj_s (pc' := 67) rfl rfl ?_
              refine jj_if_ne 74 rfl rfl (fun c2 => ?_) (fun c2 => ?_)
              · refine jj_s (pc' := 75) rfl rfl ?_
                refine go _ ?_
                rw [bs0, if_neg (fun z => c2 (by rw [z]; rfl))]
                rfl
              · refine jj_s (pc' := 71) rfl rfl ?_
                refine jj_s (pc' := 75) rfl rfl ?_
                refine go _ ?_
                rw [bs0, if_pos (nI_inj (b := 0) (by omega) (by omega) c2)]
                rfl
          exact L2 (2 ^ (cn (bt (une F N)) 20)) 0 Wy _ (by omega) (fun T hT => absurd hT (by omega))
        · have c1 : ¬ (cn (bt (une F N)) 20) ≤ 12 := fun z => c1 ((nI_leI (a := (cn (bt (une F N)) 20)) (b := 12) (by omega) (by omega)).mpr z)
          refine jj_ldc2 rfl tw_l9 ?_
          exact jj_lret rfl rfl ⟨by rw [if_neg (fun z => c1 ((le12 hN hop1).mp z))], rfl, MLa.fin ha2⟩
      · have hok : bt (une F N) k = opF F k := by rw [hop, decide_eq_true c]; rfl
        refine jj_s (pc' := 15) rfl rfl ?_
        refine jj_s (pc' := 16) rfl rfl ?_
        refine jj_v1 rfl rfl rfl wM_o rfl rfl (c9_hasEnded (by omega)) ?_
        rw [(ha2.1.2.2.1 k c).2.2.1]
        refine jj_zF 32 rfl rfl (fun c1 => ?_) (fun c1 => ?_)
        · have c1 : bt (une F N) k = false := by rw [hok]; unfold opF; rw [c1]; rfl
          have e : cn (bt (une F N)) (k + 1) = cn (bt (une F N)) k := by rw [cn, if_neg (by rw [c1]; decide), Nat.add_zero]
          first | refine jj_inc rfl rfl ?_ | refine jj_s (pc' := 35) rfl rfl ?_
          refine jj_s (pc' := 4) rfl rfl ?_
          refine jj_lv ?_ (ih (k + 1) A2 (by omega) (by omega) (by rw [e]; exact h14) hA2)
          rw [e]; rfl
        · have c1 : bt (une F N) k = true := by rw [hok]; unfold opF; rw [c1]; rfl
          have e : cn (bt (une F N)) (k + 1) = cn (bt (une F N)) k + 1 := by rw [cn, if_pos c1]
          refine jj_s (pc' := 23) rfl rfl ?_
          refine jj_g rfl rfl wM_o rfl ?_
          refine jj_s (pc' := 27) rfl rfl ?_
          refine jj_s (pc' := 28) rfl rfl ?_
          refine jj_mst 20 rfl rfl (by decide) (by first | assumption | omega) ?_
          first | refine jj_inc rfl rfl ?_ | refine jj_s (pc' := 32) rfl rfl ?_
          first | refine jj_inc rfl rfl ?_ | refine jj_s (pc' := 35) rfl rfl ?_
          refine jj_s (pc' := 4) rfl rfl ?_
          refine jj_lv ?_ (ih (k + 1) (uF A2 14 (cn (bt (une F N)) k) (nI k)) (by omega) (by omega) (fun i hi => ?_) (fun j hj => by rw [uF_j _ _ _ _ hj]; exact hA2 j hj))
          · rw [e]; rfl
          · rw [e] at hi
            by_cases ei : i = cn (bt (une F N)) k
            · subst ei
              rw [uF_s]
              have h1 := mmK_keep (une F N) (k + 1) (20 - (k + 1)) (cn (bt (une F N)) k) (by omega)
              have h2 : mmK (une F N) (k + 1) (cn (bt (une F N)) k) = k := by rw [mmK, if_pos c1, va_up_s]
              rw [show k + 1 + (20 - (k + 1)) = 20 by omega, h2] at h1
              show nI k = nI (mmK (une F N) 20 (cn (bt (une F N)) k))
              rw [h1]
            · rw [uF_i _ _ _ _ ei]; exact h14 i (by omega)
  exact L1 (N + 1) 0 A (by omega) (by omega) (fun i hi => absurd hi (by unfold cn; omega)) (fun j _ => rfl)
