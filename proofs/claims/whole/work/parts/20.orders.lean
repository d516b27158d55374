/-! counting the pairs of a chain cover -/
def cvK (bf : Nat → Int32) (op : Int32) (O : Nat → Int32) : Nat → (Nat → Option Nat) × (Nat → Option Nat) × (Nat → Int32) × Nat
  | 0 => (fun _ => none, fun _ => none, O, 0)
  | k + 1 => if bt op k = true then
      let s := cvK bf op O k
      let E := fnE bf s.1 s.2.1 s.2.2.1 k op
      (E.1, E.2.1, E.2.2.1, s.2.2.2 + (if E.2.2.2 = true then 1 else 0)) else cvK bf op O k
def c0K (P : Nat → Nat → Int32) : Nat → (Nat → Nat → Int32)
  | 0 => P
  | k + 1 => uF (uF (c0K P k) 0 k (-7)) 1 k (-7)
theorem c0K_at (P : Nat → Nat → Int32) (k : Nat) : (∀ i, i < k → c0K P k 0 i = -7 ∧ c0K P k 1 i = -7) ∧ c0K P k 2 = P 2 := by
  induction k with
  | zero => exact ⟨fun i hi => absurd hi (by omega), rfl⟩
  | succ k ih =>
    unfold c0K
    refine ⟨fun i hi => ?_, ?_⟩
    · rw [uF_at, uF_at, uF_at, uF_at]
      by_cases e : i = k
      · subst e; simp
      · have := ih.1 i (by omega)
        simp [e, this.1, this.2]
    · rw [uF_j _ _ _ _ (by decide), uF_j _ _ _ _ (by decide)]
      exact ih.2
theorem cvK_le (bf : Nat → Int32) (op : Int32) (O : Nat → Int32) (k : Nat) : (cvK bf op O k).2.2.2 ≤ k := by
  induction k with
  | zero => exact Nat.le_refl _
  | succ k ih =>
    unfold cvK
    split
    next =>
      dsimp only
      split <;> omega
    next => omega
set_option maxHeartbeats 4000000 in
set_option maxRecDepth 100000 in
 theorem c_countPairs {G : GC} {B n : Nat} {h : HT} {o a : Nat} {P : Nat → Nat → Int32} {bf : Nat → Int32} (hb : h a = some (ia 20 bf)) (ha : a < o ∨ o + 4 ≤ a) (op : Int32) (hok : ∀ k, k < 20 → bt op k = true → (∀ j p, (cvK bf op (P 2) k).2.1 j = some p → p < 20) ∧ (∀ p j, (cvK bf op (P 2) k).2.1 j = some p → (cvK bf op (P 2) k).1 p = some j) ∧ (cvK bf op (P 2) k).1 k = none) : CtJ G B M1_countPairs [.ref (B + o), .int op, .ref (B + a)] n (wA o 3 (cob B o) P h) 0 0 (eqP (some (.int (nI (cvK bf op (P 2) 20).2.2.2))) n (wA o 3 (cob B o) (CP (cvK bf op (P 2) 20).1 (cvK bf op (P 2) 20).2.1 (cvK bf op (P 2) 20).2.2.1) h)) := by
  unfold CtJ
  refine jj_lv (lv' := [some (.ref (B + o)), some (.int op), some (.ref (B + a)), none, none]) rfl ?_
  refine jj_s (pc' := 1) rfl rfl ?_
  refine jj_s (pc' := 2) rfl rfl ?_
  have L1 : ∀ d k, k + d = 20 → JJ X0 G B M1_countPairs 2 [some (.ref (B + o)), some (.int op), some (.ref (B + a)), some (.int (nI k)), none] [] n (wA o 3 (cob B o) (c0K P k) h) 0 0 (eqP (some (.int (nI (cvK bf op (P 2) 20).2.2.2))) n (wA o 3 (cob B o) (CP (cvK bf op (P 2) 20).1 (cvK bf op (P 2) 20).2.1 (cvK bf op (P 2) 20).2.2.1) h)) := by
    intro d
    induction d with
    | zero =>
      intro k hk
      have hk : k = 20 := by omega
      subst hk
      refine jj_s (pc' := 3) rfl rfl ?_
      refine jj_s (pc' := 5) rfl rfl ?_
      refine jj_icmp_ge 30 rfl rfl (fun c => ?_) (fun c => absurd (by decide) c)
      refine jj_s (pc' := 31) rfl rfl ?_
      refine jj_s (pc' := 32) rfl rfl ?_
      refine jj_s (pc' := 33) rfl rfl ?_
      refine jj_s (pc' := 35) rfl rfl ?_
      refine jj_sm (h' := wA o 3 (cob B o) (CP (fun _ => none) (fun _ => none) (P 2)) h) (smH_A (fun j hj i hi => ?_)) ?_
      · have g := c0K_at P 20
        match j, hj with
        | 0, _ => exact (g.1 i hi).1
        | 1, _ => exact (g.1 i hi).2
        | 2, _ => rw [g.2]; rfl
      · have L2 : ∀ d k, k + d = 20 → JJ X0 G B M1_countPairs 35 [some (.ref (B + o)), some (.int op), some (.ref (B + a)), some (.int (nI (cvK bf op (P 2) k).2.2.2)), some (.int (nI k))] [] n (wA o 3 (cob B o) (CP (cvK bf op (P 2) k).1 (cvK bf op (P 2) k).2.1 (cvK bf op (P 2) k).2.2.1) h) 0 0 (eqP (some (.int (nI (cvK bf op (P 2) 20).2.2.2))) n (wA o 3 (cob B o) (CP (cvK bf op (P 2) 20).1 (cvK bf op (P 2) 20).2.1 (cvK bf op (P 2) 20).2.2.1) h)) := by
          intro d
          induction d with
          | zero =>
            intro k hk
            have hk : k = 20 := by omega
            subst hk
            refine jj_s (pc' := 37) rfl rfl ?_
            refine jj_s (pc' := 39) rfl rfl ?_
            refine jj_icmp_ge 71 rfl rfl (fun c => ?_) (fun c => absurd (by decide) c)
            refine jj_s (pc' := 72) rfl rfl ?_
            exact jj_iret rfl rfl ⟨rfl, rfl, rfl⟩
          | succ d ih =>
            intro k hk
            refine jj_s (pc' := 37) rfl rfl ?_
            refine jj_s (pc' := 39) rfl rfl ?_
            refine jj_geN (b := 20) 71 rfl rfl (by omega) (by omega) (fun c => absurd c (by omega)) (fun c => ?_)
            refine jj_s (pc' := 43) rfl rfl ?_
            refine jj_s (pc' := 45) rfl rfl ?_
            refine jj_t2 rfl rfl rfl rfl rfl (c_has (by omega)) ?_
            refine jj_zT 65 rfl rfl (fun c2 => ?_) (fun c2 => ?_)
            · have e : cvK bf op (P 2) (k + 1) = cvK bf op (P 2) k := by rw [cvK, if_neg (by rw [c2]; decide)]
              first | refine jj_inc rfl rfl ?_ | refine jj_s (pc' := 68) rfl rfl ?_
              refine jj_s (pc' := 35) rfl rfl ?_
              refine jj_lv ?_ (jj_h ?_ (ih (k + 1) (by omega)))
              · rw [e]; rfl
              · rw [e]
            · obtain ⟨o1, o2, o3⟩ := hok k (by omega) c2
              have e : cvK bf op (P 2) (k + 1) = ((fnE bf (cvK bf op (P 2) k).1 (cvK bf op (P 2) k).2.1 (cvK bf op (P 2) k).2.2.1 k op).1, (fnE bf (cvK bf op (P 2) k).1 (cvK bf op (P 2) k).2.1 (cvK bf op (P 2) k).2.2.1 k op).2.1, (fnE bf (cvK bf op (P 2) k).1 (cvK bf op (P 2) k).2.1 (cvK bf op (P 2) k).2.2.1 k op).2.2.1, (cvK bf op (P 2) k).2.2.2 + (if (fnE bf (cvK bf op (P 2) k).1 (cvK bf op (P 2) k).2.1 (cvK bf op (P 2) k).2.2.1 k op).2.2.2 = true then 1 else 0)) := by rw [cvK, if_pos c2]
              refine jj_s (pc' := 52) rfl rfl ?_
              refine jj_s (pc' := 54) rfl rfl ?_
              refine jj_s (pc' := 55) rfl rfl ?_
              refine jj_s (pc' := 56) rfl rfl ?_
              refine jj_v3 rfl rfl rfl wA_o rfl rfl (c_findNext hb ha o1 o2 (by omega) o3 op) ?_
              refine jj_zT 65 rfl rfl (fun c3 => ?_) (fun c3 => ?_)
              · first | refine jj_inc rfl rfl ?_ | refine jj_s (pc' := 68) rfl rfl ?_
                refine jj_s (pc' := 35) rfl rfl ?_
                refine jj_lv ?_ (jj_h ?_ (ih (k + 1) (by omega)))
                · rw [e, c3]; rfl
                · rw [e]
              · first | refine jj_inc rfl rfl ?_ | refine jj_s (pc' := 65) rfl rfl ?_
                first | refine jj_inc rfl rfl ?_ | refine jj_s (pc' := 68) rfl rfl ?_
                refine jj_s (pc' := 35) rfl rfl ?_
                refine jj_lv ?_ (jj_h ?_ (ih (k + 1) (by omega)))
                · rw [e, c3]; rfl
                · rw [e]
        exact L2 20 0 (by omega)
    | succ d ih =>
      intro k hk
      refine jj_s (pc' := 3) rfl rfl ?_
      refine jj_s (pc' := 5) rfl rfl ?_
      refine jj_geN (b := 20) 30 rfl rfl (by omega) (by omega) (fun c => absurd c (by omega)) (fun c => ?_)
      refine jj_s (pc' := 9) rfl rfl ?_
      refine jj_g rfl rfl wA_o rfl ?_
      refine jj_s (pc' := 13) rfl rfl ?_
      refine jj_s (pc' := 15) rfl rfl ?_
      refine jj_ast1 rfl (by decide) (by first | assumption | omega) ?_
      refine jj_s (pc' := 17) rfl rfl ?_
      refine jj_g rfl rfl wA_o rfl ?_
      refine jj_s (pc' := 21) rfl rfl ?_
      refine jj_s (pc' := 23) rfl rfl ?_
      refine jj_ast1 rfl (by decide) (by first | assumption | omega) ?_
      first | refine jj_inc rfl rfl ?_ | refine jj_s (pc' := 27) rfl rfl ?_
      refine jj_s (pc' := 2) rfl rfl ?_
      exact ih (k + 1) (by omega)
  exact L1 20 0 (by omega)
/-! OrderCount -/
abbrev oob (B o : Nat) : AE := ob 2 [.ref (B + (o + 1)), .ref (B + (o + 2)), .ref (B + (o + 3))]
def wO (B o : Nat) (w : Nat → Int64) (mb nd : Nat → Int32) (h : HT) : HT := fun k => if k = o then some (oob B o) else if k = o + 1 then some (la 4096 w) else if k = o + 2 then some (ia 12 mb) else if k = o + 3 then some (ia 12 nd) else h k
theorem wO_o {B o : Nat} {w : Nat → Int64} {mb nd : Nat → Int32} {h : HT} : wO B o w mb nd h o = some (oob B o) := if_pos rfl
theorem wO_w {B o : Nat} {w : Nat → Int64} {mb nd : Nat → Int32} {h : HT} : wO B o w mb nd h (o + 1) = some (la 4096 w) := by unfold wO; rw [if_neg (by omega), if_pos rfl]
theorem wO_m {B o : Nat} {w : Nat → Int64} {mb nd : Nat → Int32} {h : HT} : wO B o w mb nd h (o + 2) = some (ia 12 mb) := by unfold wO; rw [if_neg (by omega), if_neg (by omega), if_pos rfl]
theorem wO_d {B o : Nat} {w : Nat → Int64} {mb nd : Nat → Int32} {h : HT} : wO B o w mb nd h (o + 3) = some (ia 12 nd) := by unfold wO; rw [if_neg (by omega), if_neg (by omega), if_neg (by omega), if_pos rfl]
theorem wO_n {B o : Nat} {w : Nat → Int64} {mb nd : Nat → Int32} {h : HT} {k : Nat} (hk : k < o ∨ o + 4 ≤ k) : wO B o w mb nd h k = h k := by unfold wO; rw [if_neg (by omega), if_neg (by omega), if_neg (by omega), if_neg (by omega)]
theorem wO_pw {B o : Nat} {w w' : Nat → Int64} {mb nd : Nat → Int32} {h : HT} : hu (wO B o w mb nd h) (o + 1) (la 4096 w') = wO B o w' mb nd h := by
  funext k
  by_cases e : k = o + 1
  · subst e; rw [hu_s, wO_w]
  · rw [hu_n _ _ _ e]; unfold wO; simp only [e, if_false]
theorem wO_pm {B o : Nat} {w : Nat → Int64} {mb mb' nd : Nat → Int32} {h : HT} : hu (wO B o w mb nd h) (o + 2) (ia 12 mb') = wO B o w mb' nd h := by
  funext k
  by_cases e : k = o + 2
  · subst e; rw [hu_s, wO_m]
  · rw [hu_n _ _ _ e]; unfold wO; simp only [e, if_false]
theorem wO_pd {B o : Nat} {w : Nat → Int64} {mb nd nd' : Nat → Int32} {h : HT} : hu (wO B o w mb nd h) (o + 3) (ia 12 nd') = wO B o w mb nd' h := by
  funext k
  by_cases e : k = o + 3
  · subst e; rw [hu_s, wO_d]
  · rw [hu_n _ _ _ e]; unfold wO; simp only [e, if_false]
def lmK (op : Int32) (mb : Nat → Int32) : Nat → (Nat → Int32) × Nat
  | 0 => (mb, 0)
  | k + 1 => if bt op k = true ∧ (lmK op mb k).2 < 12 then (upd (lmK op mb k).1 (lmK op mb k).2 (nI k), (lmK op mb k).2 + 1) else lmK op mb k
theorem lmK_full {op : Int32} {mb : Nat → Int32} {k : Nat} (h : ¬ (lmK op mb k).2 < 12) : ∀ j, lmK op mb (k + j) = lmK op mb k := by
  intro j
  induction j with
  | zero => rfl
  | succ j ih => rw [← Nat.add_assoc, lmK, ih, if_neg (fun z => h z.2)]
theorem lmK_le (op : Int32) (mb : Nat → Int32) (k : Nat) : (lmK op mb k).2 ≤ 12 := by
  induction k with
  | zero => exact Nat.zero_le _
  | succ k ih =>
    unfold lmK
    split
    next h => show (lmK op mb k).2 + 1 ≤ 12; omega
    next => exact ih
set_option maxHeartbeats 4000000 in
set_option maxRecDepth 100000 in
 theorem c_listMembers {G : GC} {B n : Nat} {h : HT} {o : Nat} {w : Nat → Int64} {mb nd : Nat → Int32} (op : Int32) : CtJ G B M2_listMembers [.ref (B + o), .int op] n (wO B o w mb nd h) 0 0 (eqP (some (.int (nI (lmK op mb 20).2))) n (wO B o w (lmK op mb 20).1 nd h)) := by
  unfold CtJ
  refine jj_lv (lv' := [some (.ref (B + o)), some (.int op), none, none]) rfl ?_
  refine jj_s (pc' := 1) rfl rfl ?_
  refine jj_s (pc' := 2) rfl rfl ?_
  refine jj_s (pc' := 3) rfl rfl ?_
  refine jj_s (pc' := 4) rfl rfl ?_
  have L : ∀ d k, k + d = 20 → JJ X0 G B M2_listMembers 4 [some (.ref (B + o)), some (.int op), some (.int (nI (lmK op mb k).2)), some (.int (nI k))] [] n (wO B o w (lmK op mb k).1 nd h) 0 0 (eqP (some (.int (nI (lmK op mb 20).2))) n (wO B o w (lmK op mb 20).1 nd h)) := by
    intro d
    induction d with
    | zero =>
      intro k hk
      have hk : k = 20 := by omega
      subst hk
      refine jj_s (pc' := 5) rfl rfl ?_
      refine jj_s (pc' := 7) rfl rfl ?_
      refine jj_icmp_ge 40 rfl rfl (fun c => ?_) (fun c => absurd (by decide) c)
      refine jj_s (pc' := 41) rfl rfl ?_
      exact jj_iret rfl rfl ⟨rfl, rfl, rfl⟩
    | succ d ih =>
      intro k hk
      have hle := lmK_le op mb k
      refine jj_s (pc' := 5) rfl rfl ?_
      refine jj_s (pc' := 7) rfl rfl ?_
      refine jj_geN (b := 20) 40 rfl rfl (by omega) (by omega) (fun c => absurd c (by omega)) (fun c => ?_)
      refine jj_s (pc' := 11) rfl rfl ?_
      refine jj_s (pc' := 13) rfl rfl ?_
      refine jj_geN (b := 12) 40 rfl rfl (by omega) (by omega) (fun c1 => ?_) (fun c1 => ?_)
      · refine jj_s (pc' := 41) rfl rfl ?_
        have e : lmK op mb 20 = lmK op mb k := by rw [show 20 = k + (20 - k) by omega, lmK_full (by omega)]
        exact jj_iret rfl rfl ⟨by rw [e], rfl, by rw [e]⟩
      · refine jj_s (pc' := 17) rfl rfl ?_
        refine jj_s (pc' := 18) rfl rfl ?_
        refine jj_t2 rfl rfl rfl rfl rfl (c_has (by omega)) ?_
        refine jj_zT 34 rfl rfl (fun c2 => ?_) (fun c2 => ?_)
        · have e : lmK op mb (k + 1) = lmK op mb k := by rw [lmK, if_neg (fun z => by rw [c2] at z; cases z.1)]
          first | refine jj_inc rfl rfl ?_ | refine jj_s (pc' := 37) rfl rfl ?_
          refine jj_s (pc' := 4) rfl rfl ?_
          refine jj_lv ?_ (jj_h ?_ (ih (k + 1) (by omega)))
          · rw [e]; rfl
          · rw [e]
        · have e : lmK op mb (k + 1) = (upd (lmK op mb k).1 (lmK op mb k).2 (nI k), (lmK op mb k).2 + 1) := by rw [lmK, if_pos ⟨c2, c1⟩]
          refine jj_s (pc' := 25) rfl rfl ?_
          refine jj_g rfl rfl wO_o rfl ?_
          refine jj_s (pc' := 29) rfl rfl ?_
          refine jj_s (pc' := 30) rfl rfl ?_
          refine jj_iastN rfl wO_m c1 rfl (jj_h wO_pm ?_)
          first | refine jj_inc rfl rfl ?_ | refine jj_s (pc' := 34) rfl rfl ?_
          first | refine jj_inc rfl rfl ?_ | refine jj_s (pc' := 37) rfl rfl ?_
          refine jj_s (pc' := 4) rfl rfl ?_
          refine jj_lv ?_ (jj_h ?_ (ih (k + 1) (by omega)))
          · rw [e]; rfl
          · rw [e]
  exact L 20 0 (by omega)
theorem upd_upd (f : Nat → Int32) (i : Nat) (x w : Int32) : upd (upd f i x) i w = upd f i w := by
  funext k
  unfold upd
  split <;> rfl
def lnK (bf : Nat → Int32) (mm : Nat → Nat) (c : Nat) (nd : Nat → Int32) : Nat → (Nat → Int32)
  | 0 => nd
  | i + 1 => upd (lnK bf mm c nd i) i (msk (fun k => bt (bf (mm i)) (mm k)) c)
set_option maxHeartbeats 4000000 in
set_option maxRecDepth 100000 in
 theorem c_listNeeds {G : GC} {B n : Nat} {h : HT} {o a : Nat} {w : Nat → Int64} {mb nd bf : Nat → Int32} {c : Nat} (mm : Nat → Nat) (hc : c ≤ 12) (hm : ∀ i, i < c → mb i = nI (mm i) ∧ mm i < 20) (hb : h a = some (ia 20 bf)) (ha : a < o ∨ o + 4 ≤ a) : CtJ G B M2_listNeeds [.ref (B + o), .int (nI c), .ref (B + a)] n (wO B o w mb nd h) 0 0 (eqP none n (wO B o w mb (lnK bf mm c nd c) h)) := by
  have hbb : ∀ nd, wO B o w mb nd h a = some (ia 20 bf) := fun nd => (wO_n ha).trans hb
  unfold CtJ
  refine jj_lv (lv' := [some (.ref (B + o)), some (.int (nI c)), some (.ref (B + a)), none, none]) rfl ?_
  refine jj_s (pc' := 1) rfl rfl ?_
  refine jj_s (pc' := 2) rfl rfl ?_
  have L : ∀ d i z, i ≤ c → c + 1 ≤ i + d → JJ X0 G B M2_listNeeds 2 [some (.ref (B + o)), some (.int (nI c)), some (.ref (B + a)), some (.int (nI i)), z] [] n (wO B o w mb (lnK bf mm c nd i) h) 0 0 (eqP none n (wO B o w mb (lnK bf mm c nd c) h)) := by
    intro d
    induction d with
    | zero => intro i z h1 h2; exact absurd h2 (by omega)
    | succ d ih =>
      intro i z h1 h2
      refine jj_s (pc' := 3) rfl rfl ?_
      refine jj_s (pc' := 4) rfl rfl ?_
      refine jj_geN 69 rfl rfl (by omega) (by omega) (fun c1 => ?_) (fun c1 => ?_)
      · exact jj_vret rfl rfl ⟨rfl, rfl, by rw [show i = c by omega]⟩
      · refine jj_s (pc' := 8) rfl rfl ?_
        refine jj_g rfl rfl wO_o rfl ?_
        refine jj_s (pc' := 12) rfl rfl ?_
        refine jj_s (pc' := 13) rfl rfl ?_
        refine jj_iastN rfl wO_d (by omega) rfl (jj_h wO_pd ?_)
        refine jj_s (pc' := 15) rfl rfl ?_
        refine jj_s (pc' := 17) rfl rfl ?_
        have L2 : ∀ d k, k ≤ c → c + 1 ≤ k + d → JJ X0 G B M2_listNeeds 17 [some (.ref (B + o)), some (.int (nI c)), some (.ref (B + a)), some (.int (nI i)), some (.int (nI k))] [] n (wO B o w mb (upd (lnK bf mm c nd i) i (msk (fun k => bt (bf (mm i)) (mm k)) k)) h) 0 0 (eqP none n (wO B o w mb (lnK bf mm c nd c) h)) := by
          intro d
          induction d with
          | zero => intro k h1 h2; exact absurd h2 (by omega)
          | succ d ihk =>
            intro k h1 h2
            refine jj_s (pc' := 19) rfl rfl ?_
            refine jj_s (pc' := 20) rfl rfl ?_
            refine jj_geN 63 rfl rfl (by omega) (by omega) (fun c2 => ?_) (fun c2 => ?_)
            · rw [show k = c by omega]
              first | refine jj_inc rfl rfl ?_ | refine jj_s (pc' := 66) rfl rfl ?_
              refine jj_s (pc' := 2) rfl rfl ?_
              exact ih (i + 1) _ (by omega) (by omega)
            · refine jj_s (pc' := 24) rfl rfl ?_
              refine jj_s (pc' := 25) rfl rfl ?_
              refine jj_g rfl rfl wO_o rfl ?_
              refine jj_s (pc' := 29) rfl rfl ?_
              refine jj_ialdN rfl wO_m (by omega) rfl ?_
              rw [(hm i c1).1]
              refine jj_ialdN rfl (hbb _) (hm i c1).2 rfl ?_
              refine jj_s (pc' := 32) rfl rfl ?_
              refine jj_g rfl rfl wO_o rfl ?_
              refine jj_s (pc' := 37) rfl rfl ?_
              refine jj_ialdN rfl wO_m (by omega) rfl ?_
              rw [(hm k c2).1]
              refine jj_t2 rfl rfl rfl rfl rfl (c_has (by have := (hm k c2).2; omega)) ?_
              refine jj_zT 57 rfl rfl (fun c3 => ?_) (fun c3 => ?_)
              · first | refine jj_inc rfl rfl ?_ | refine jj_s (pc' := 60) rfl rfl ?_
                refine jj_s (pc' := 17) rfl rfl ?_
                refine jj_h ?_ (ihk (k + 1) (by omega) (by omega))
                rw [msk, if_neg (by rw [c3]; decide)]
              · refine jj_s (pc' := 45) rfl rfl ?_
                refine jj_g rfl rfl wO_o rfl ?_
                refine jj_s (pc' := 49) rfl rfl ?_
                refine jj_s (pc' := 50) rfl rfl ?_
                refine jj_ialdN rfl wO_d (by omega) rfl ?_
                refine jj_s (pc' := 52) rfl rfl ?_
                refine jj_s (pc' := 54) rfl rfl ?_
                refine jj_s (pc' := 55) rfl rfl ?_
                refine jj_s (pc' := 56) rfl rfl ?_
                refine jj_iastN rfl wO_d (by omega) rfl (jj_h wO_pd ?_)
                first | refine jj_inc rfl rfl ?_ | refine jj_s (pc' := 60) rfl rfl ?_
                refine jj_s (pc' := 17) rfl rfl ?_
                refine jj_h ?_ (ihk (k + 1) (by omega) (by omega))
                rw [msk, if_pos c3, pk_us, upd_upd]
                rfl
        exact L2 (c + 1) 0 (by omega) (by omega)
  exact L (c + 1) 0 none (by omega) (by omega)
/-- a set as a number -/
theorem bt_nI {s : Nat} (hs : s < 4294967296) (i : Nat) : bt (nI s) i = s.testBit i := by
  unfold bt nI
  show (BitVec.ofNat 32 s).getLsbD i = _
  rw [BitVec.getLsbD_ofNat]
  rcases Nat.lt_or_ge i 32 with h | h
  · simp [h]
  · simp [Nat.not_lt.mpr h]
    exact Nat.testBit_lt_two_pow (Nat.lt_of_lt_of_le hs (by simpa using Nat.pow_le_pow_right (n := 2) (by decide) h))
theorem nI_or {s i : Nat} (hs : s < 4096) (hi : i < 12) : nI s ||| bit i = nI (s ||| 2 ^ i) ∧ s ||| 2 ^ i < 4096 := by
  have h2 : s ||| 2 ^ i < 4096 := Nat.or_lt_two_pow (n := 12) hs (Nat.pow_lt_pow_right (by decide) hi)
  refine ⟨b_ext fun j hj => ?_, h2⟩
  rw [b_put (by omega), bt_nI (by omega), bt_nI (by omega), Nat.testBit_or, Nat.testBit_two_pow]
  by_cases e : i = j
  · subst e; simp
  · have : ¬ j = i := fun z => e z.symm
    simp [e, this]
def gfK (nd : Nat → Int32) (s : Nat) (w : Nat → Int64) : Nat → (Nat → Int64)
  | 0 => w
  | i + 1 => if s.testBit i = false ∧ nd i &&& (nI s ^^^ -1) = 0 then vp_updL (gfK nd s w i) (s ||| 2 ^ i) (gfK nd s w i (s ||| 2 ^ i) + gfK nd s w i s) else gfK nd s w i
set_option maxHeartbeats 4000000 in
set_option maxRecDepth 100000 in
 theorem c_goOnFrom {G : GC} {B n : Nat} {h : HT} {o : Nat} {w : Nat → Int64} {mb nd : Nat → Int32} {s c : Nat} (hs : s < 4096) (hc : c ≤ 12) : CtJ G B M2_goOnFrom [.ref (B + o), .int (nI s), .int (nI c)] n (wO B o w mb nd h) 0 0 (eqP none n (wO B o (gfK nd s w c) mb nd h)) := by
  unfold CtJ
  refine jj_lv (lv' := [some (.ref (B + o)), some (.int (nI s)), some (.int (nI c)), none]) rfl ?_
  refine jj_s (pc' := 1) rfl rfl ?_
  refine jj_s (pc' := 2) rfl rfl ?_
  have L : ∀ d i, i ≤ c → c + 1 ≤ i + d → JJ X0 G B M2_goOnFrom 2 [some (.ref (B + o)), some (.int (nI s)), some (.int (nI c)), some (.int (nI i))] [] n (wO B o (gfK nd s w i) mb nd h) 0 0 (eqP none n (wO B o (gfK nd s w c) mb nd h)) := by
    intro d
    induction d with
    | zero => intro i h1 h2; exact absurd h2 (by omega)
    | succ d ih =>
      intro i h1 h2
      refine jj_s (pc' := 3) rfl rfl ?_
      refine jj_s (pc' := 4) rfl rfl ?_
      refine jj_geN 53 rfl rfl (by omega) (by omega) (fun c1 => ?_) (fun c1 => ?_)
      · exact jj_vret rfl rfl ⟨rfl, rfl, by rw [show i = c by omega]⟩
      · have skip : ¬ (s.testBit i = false ∧ nd i &&& (nI s ^^^ -1) = 0) → JJ X0 G B M2_goOnFrom 47 [some (.ref (B + o)), some (.int (nI s)), some (.int (nI c)), some (.int (nI i))] [] n (wO B o (gfK nd s w i) mb nd h) 0 0 (eqP none n (wO B o (gfK nd s w c) mb nd h)) := by
          intro hs
          first | refine jj_inc rfl rfl ?_ | refine jj_s (pc' := 50) rfl rfl ?_
          refine jj_s (pc' := 2) rfl rfl ?_
          exact jj_h (by rw [gfK, if_neg hs]) (ih (i + 1) (by omega) (by omega))
        refine jj_s (pc' := 8) rfl rfl ?_
        refine jj_s (pc' := 9) rfl rfl ?_
        refine jj_t2 rfl rfl rfl rfl rfl (c_has (by omega)) ?_
        rw [bt_nI (by omega)]
        refine jj_zF 47 rfl rfl (fun c2 => ?_) (fun c2 => ?_)
        · exact skip (fun z => by rw [c2] at z; cases z.1)
        · refine jj_s (pc' := 16) rfl rfl ?_
          refine jj_g rfl rfl wO_o rfl ?_
          refine jj_s (pc' := 20) rfl rfl ?_
          refine jj_ialdN rfl wO_d (by omega) rfl ?_
          refine jj_s (pc' := 22) rfl rfl ?_
          refine jj_s (pc' := 23) rfl rfl ?_
          refine jj_s (pc' := 24) rfl rfl ?_
          refine jj_s (pc' := 25) rfl rfl ?_
          refine jj_if_ne 47 rfl rfl (fun c3 => ?_) (fun c3 => ?_)
          · exact skip (fun z => c3 z.2)
          · obtain ⟨o1, o2⟩ := nI_or (i := i) hs (by omega)
            refine jj_s (pc' := 29) rfl rfl ?_
            refine jj_g rfl rfl wO_o rfl ?_
            refine jj_s (pc' := 33) rfl rfl ?_
            refine jj_s (pc' := 34) rfl rfl ?_
            refine jj_s (pc' := 35) rfl rfl ?_
            refine jj_s (pc' := 36) rfl rfl ?_
            refine jj_s (pc' := 37) rfl rfl ?_
            refine jj_st (st' := [.int (nI (s ||| 2 ^ i)), .ref (B + (o + 1))]) (by rw [← o1]; rfl) ?_
            refine jj_s (pc' := 38) rfl rfl ?_
            refine jj_laldN rfl wO_w o2 rfl ?_
            refine jj_s (pc' := 40) rfl rfl ?_
            refine jj_g rfl rfl wO_o rfl ?_
            refine jj_s (pc' := 44) rfl rfl ?_
            refine jj_laldN rfl wO_w hs rfl ?_
            refine jj_s (pc' := 46) rfl rfl ?_
            refine jj_lastN rfl wO_w o2 rfl (jj_h wO_pw ?_)
            first | refine jj_inc rfl rfl ?_ | refine jj_s (pc' := 50) rfl rfl ?_
            refine jj_s (pc' := 2) rfl rfl ?_
            exact jj_h (by rw [gfK, if_pos ⟨c2, c3⟩]) (ih (i + 1) (by omega) (by omega))
  exact L (c + 1) 0 (by omega) (by omega)
def w0K (w : Nat → Int64) : Nat → (Nat → Int64)
  | 0 => w
  | k + 1 => vp_updL (w0K w k) k 0
def cwK (nd : Nat → Int32) (c : Nat) (w : Nat → Int64) : Nat → (Nat → Int64)
  | 0 => vp_updL (w0K w (2 ^ c)) 0 1
  | s + 1 => if cwK nd c w s s = 0 then cwK nd c w s else gfK nd s (cwK nd c w s) c
theorem all_nI {c : Nat} (hc : c ≤ 12) : bit c - 1 = nI (2 ^ c - 1) ∧ 2 ^ c ≤ 4096 ∧ 1 ≤ 2 ^ c := by
  have h : ∀ c, c ≤ 12 → bit c - 1 = nI (2 ^ c - 1) := by decide +kernel
  exact ⟨h c hc, by simpa using Nat.pow_le_pow_right (n := 2) (by decide) hc, Nat.one_le_two_pow⟩
theorem lcmp0 (x : Int64) : lg_cmp x 0 = 0 ↔ x = 0 := by
  unfold lg_cmp
  by_cases h : x = 0
  · subst h; simp
  · rcases Int64.lt_or_lt_of_ne h with q | q
    · have q2 : ¬ (0 : Int64) < x := Int64.lt_asymm q
      simp [h, q2]
    · simp [h, q]
set_option maxHeartbeats 4000000 in
set_option maxRecDepth 100000 in
 theorem c_countFor {G : GC} {B n : Nat} {h : HT} {o a : Nat} {w : Nat → Int64} {mb nd bf : Nat → Int32} (op : Int32) (mm : Nat → Nat) (hm : ∀ i, i < (lmK op mb 20).2 → (lmK op mb 20).1 i = nI (mm i) ∧ mm i < 20) (hb : h a = some (ia 20 bf)) (ha : a < o ∨ o + 4 ≤ a) : CtJ G B M2_countFor [.ref (B + o), .int op, .ref (B + a)] n (wO B o w mb nd h) 0 0 (eqP (some (.long (cwK (lnK bf mm (lmK op mb 20).2 nd (lmK op mb 20).2) (lmK op mb 20).2 w (2 ^ (lmK op mb 20).2 - 1) (2 ^ (lmK op mb 20).2 - 1)))) n (wO B o (cwK (lnK bf mm (lmK op mb 20).2 nd (lmK op mb 20).2) (lmK op mb 20).2 w (2 ^ (lmK op mb 20).2 - 1)) (lmK op mb 20).1 (lnK bf mm (lmK op mb 20).2 nd (lmK op mb 20).2) h)) := by
  have hle := lmK_le op mb 20
  unfold CtJ
  refine jj_lv (lv' := [some (.ref (B + o)), some (.int op), some (.ref (B + a)), none, none, none]) rfl ?_
  refine jj_s (pc' := 1) rfl rfl ?_
  refine jj_s (pc' := 2) rfl rfl ?_
  refine jj_v1 rfl rfl rfl wO_o rfl rfl (c_listMembers op) ?_
  generalize hce : (lmK op mb 20).2 = c at hle hm ⊢
  generalize (lmK op mb 20).1 = mb at hm ⊢
  refine jj_s (pc' := 6) rfl rfl ?_
  refine jj_s (pc' := 7) rfl rfl ?_
  refine jj_s (pc' := 8) rfl rfl ?_
  refine jj_s (pc' := 9) rfl rfl ?_
  refine jj_w2 rfl rfl rfl wO_o rfl rfl (c_listNeeds mm hle hm hb ha) ?_
  generalize lnK bf mm c nd c = nd
  refine jj_s (pc' := 13) rfl rfl ?_
  refine jj_s (pc' := 14) rfl rfl ?_
  refine jj_s (pc' := 15) rfl rfl ?_
  refine jj_s (pc' := 16) rfl rfl ?_
  refine jj_s (pc' := 17) rfl rfl ?_
  refine jj_s (pc' := 19) rfl rfl ?_
  refine jj_s (pc' := 20) rfl rfl ?_
  refine jj_s (pc' := 22) rfl rfl ?_
  obtain ⟨a1, a2, a3⟩ := all_nI hle
  refine jj_lv (lv' := [some (.ref (B + o)), some (.int op), some (.ref (B + a)), some (.int (nI c)), some (.int (nI (2 ^ c - 1))), some (.int (nI 0))]) (by rw [← a1]; rfl) ?_
  have L1 : ∀ d k, k + d = 2 ^ c → JJ X0 G B M2_countFor 22 [some (.ref (B + o)), some (.int op), some (.ref (B + a)), some (.int (nI c)), some (.int (nI (2 ^ c - 1))), some (.int (nI k))] [] n (wO B o (w0K w k) mb nd h) 0 0 (eqP (some (.long (cwK nd c w (2 ^ c - 1) (2 ^ c - 1)))) n (wO B o (cwK nd c w (2 ^ c - 1)) mb nd h)) := by
    intro d
    induction d with
    | zero =>
      intro k hk
      have hk : k = 2 ^ c := by omega
      subst hk
      refine jj_s (pc' := 24) rfl rfl ?_
      refine jj_s (pc' := 26) rfl rfl ?_
      refine jj_icmp_gt 43 rfl rfl (fun c1 => ?_) (fun c1 => absurd ((nI_ltI (a := 2 ^ c - 1) (b := 2 ^ c) (by omega) (by omega)).mpr (by omega)) c1)
      refine jj_s (pc' := 44) rfl rfl ?_
      refine jj_g rfl rfl wO_o rfl ?_
      refine jj_s (pc' := 48) rfl rfl ?_
      refine jj_s (pc' := 49) rfl rfl ?_
      refine jj_lastN (j := 0) rfl wO_w (by omega) rfl (jj_h wO_pw ?_)
      refine jj_s (pc' := 51) rfl rfl ?_
      refine jj_s (pc' := 53) rfl rfl ?_
      have L2 : ∀ d s, s + d = 2 ^ c - 1 → JJ X0 G B M2_countFor 53 [some (.ref (B + o)), some (.int op), some (.ref (B + a)), some (.int (nI c)), some (.int (nI (2 ^ c - 1))), some (.int (nI s))] [] n (wO B o (cwK nd c w s) mb nd h) 0 0 (eqP (some (.long (cwK nd c w (2 ^ c - 1) (2 ^ c - 1)))) n (wO B o (cwK nd c w (2 ^ c - 1)) mb nd h)) := by
        intro d
        induction d with
        | zero =>
          intro s hs
          have hs : s = 2 ^ c - 1 := by omega
          subst hs
          refine jj_s (pc' := 55) rfl rfl ?_
          refine jj_s (pc' := 57) rfl rfl ?_
          refine jj_geN 85 rfl rfl (by omega) (by omega) (fun c2 => ?_) (fun c2 => absurd c2 (by omega))
          refine jj_s (pc' := 86) rfl rfl ?_
          refine jj_g rfl rfl wO_o rfl ?_
          refine jj_s (pc' := 91) rfl rfl ?_
          refine jj_laldN rfl wO_w (by omega) rfl ?_
          exact jj_lret rfl rfl ⟨rfl, rfl, rfl⟩
        | succ d ihs =>
          intro s hs
          refine jj_s (pc' := 55) rfl rfl ?_
          refine jj_s (pc' := 57) rfl rfl ?_
          refine jj_geN 85 rfl rfl (by omega) (by omega) (fun c2 => absurd c2 (by omega)) (fun c2 => ?_)
          refine jj_s (pc' := 61) rfl rfl ?_
          refine jj_g rfl rfl wO_o rfl ?_
          refine jj_s (pc' := 66) rfl rfl ?_
          refine jj_laldN rfl wO_w (by omega) rfl ?_
          refine jj_s (pc' := 68) rfl rfl ?_
          refine jj_lcmp rfl ?_
          refine jj_if_eq 79 rfl rfl (fun c3 => ?_) (fun c3 => ?_)
          · have c3 := (lcmp0 _).mp c3
            first | refine jj_inc rfl rfl ?_ | refine jj_s (pc' := 82) rfl rfl ?_
            refine jj_s (pc' := 53) rfl rfl ?_
            exact jj_h (by rw [cwK, if_pos c3]) (ihs (s + 1) (by omega))
          · have c3 := fun z => c3 ((lcmp0 _).mpr z)
            refine jj_s (pc' := 73) rfl rfl ?_
            refine jj_s (pc' := 75) rfl rfl ?_
            refine jj_s (pc' := 76) rfl rfl ?_
            refine jj_w2 rfl rfl rfl wO_o rfl rfl (c_goOnFrom (by omega) hle) ?_
            first | refine jj_inc rfl rfl ?_ | refine jj_s (pc' := 82) rfl rfl ?_
            refine jj_s (pc' := 53) rfl rfl ?_
            exact jj_h (by rw [cwK, if_neg c3]) (ihs (s + 1) (by omega))
      exact L2 (2 ^ c - 1) 0 (by omega)
    | succ d ih =>
      intro k hk
      refine jj_s (pc' := 24) rfl rfl ?_
      refine jj_s (pc' := 26) rfl rfl ?_
      refine jj_icmp_gt 43 rfl rfl (fun c1 => absurd ((nI_ltI (a := 2 ^ c - 1) (b := k) (by omega) (by omega)).mp c1) (by omega)) (fun c1 => ?_)
      refine jj_s (pc' := 30) rfl rfl ?_
      refine jj_g rfl rfl wO_o rfl ?_
      refine jj_s (pc' := 35) rfl rfl ?_
      refine jj_s (pc' := 36) rfl rfl ?_
      refine jj_lastN rfl wO_w (by omega) rfl (jj_h wO_pw ?_)
      first | refine jj_inc rfl rfl ?_ | refine jj_s (pc' := 40) rfl rfl ?_
      refine jj_s (pc' := 22) rfl rfl ?_
      exact ih (k + 1) (by omega)
  exact L1 (2 ^ c) 0 (by omega)
