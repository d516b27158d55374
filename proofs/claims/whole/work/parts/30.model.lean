/-! the reference: its cells -/
def msz : Nat → Nat := fun j => match j with
  | 0 => 645
  | 1 => 1290
  | 3 => 200
  | 17 => 400
  | _ => 20
def mobj (B m : Nat) (V : Nat → Int32) : List Value := [.ref (B + (m + 1)), .ref (B + (m + 2)), .int (V 2), .ref (B + (m + 3)), .int (V 4), .ref (B + (m + 4)), .int (V 6), .int (V 7), .int (V 8), .ref (B + (m + 5)), .ref (B + (m + 6)), .ref (B + (m + 7)), .ref (B + (m + 8)), .ref (B + (m + 9)), .ref (B + (m + 10)), .ref (B + (m + 11)), .ref (B + (m + 12)), .ref (B + (m + 13)), .ref (B + (m + 14)), .ref (B + (m + 15)), .int (V 20), .int (V 21), .ref (B + (m + 16)), .ref (B + (m + 17)), .ref (B + (m + 18)), .int (V 25)]
def wM (B m : Nat) (A : Nat → Nat → Int32) (Wy : Nat → Int64) (V : Nat → Int32) (h : HT) : HT := fun k => if k = m then some (ob 9 (mobj B m V)) else if k = m + 14 then some (la 4096 Wy) else if m < k ∧ k < m + 19 then some (ia (msz (k - (m + 1))) (A (k - (m + 1)))) else h k
section
variable {B m : Nat} {A : Nat → Nat → Int32} {Wy : Nat → Int64} {V : Nat → Int32} {h : HT}
theorem wM_o : wM B m A Wy V h m = some (ob 9 (mobj B m V)) := if_pos rfl
theorem wM_w : wM B m A Wy V h (m + 14) = some (la 4096 Wy) := by
  unfold wM
  rw [if_neg (by omega), if_pos rfl]
theorem wM_a {j : Nat} (hj : j < 18 ∧ j ≠ 13) : wM B m A Wy V h (m + (j + 1)) = some (ia (msz j) (A j)) := by
  unfold wM
  rw [if_neg (by omega), if_neg (by omega), if_pos (by omega), show m + (j + 1) - (m + 1) = j by omega]
theorem wM_n {k : Nat} (hk : k < m ∨ m + 19 ≤ k) : wM B m A Wy V h k = h k := by
  unfold wM
  rw [if_neg (by omega), if_neg (by omega), if_neg (by omega)]
theorem wM_put {j i : Nat} {x : Int32} (hj : j < 18 ∧ j ≠ 13) : hu (wM B m A Wy V h) (m + (j + 1)) (ia (msz j) (upd (A j) i x)) = wM B m (uF A j i x) Wy V h := by
  funext k
  by_cases hk : k = m + (j + 1)
  · subst hk
    rw [hu_s, wM_a hj]
    simp [uF, upF]
  · rw [hu_n _ _ _ hk]
    unfold wM
    split
    next => rfl
    next h1 =>
      split
      next h2 => rfl
      next =>
        split
        next h3 => rw [uF_j _ _ _ _ (by omega)]
        next => rfl
theorem wM_wput {i : Nat} {x : Int64} : hu (wM B m A Wy V h) (m + 14) (la 4096 (vp_updL Wy i x)) = wM B m A (vp_updL Wy i x) V h := by
  funext k
  by_cases hk : k = m + 14
  · subst hk
    rw [hu_s, wM_w]
  · rw [hu_n _ _ _ hk]
    unfold wM
    rw [if_neg hk, if_neg hk]
theorem wM_scal {fs : List Value} {V' : Nat → Int32} (he : fs = mobj B m V') : hu (wM B m A Wy V h) m (ob 9 fs) = wM B m A Wy V' h := by
  funext k
  by_cases hk : k = m
  · subst hk
    rw [hu_s, wM_o, he]
  · rw [hu_n _ _ _ hk]
    unfold wM
    rw [if_neg hk, if_neg hk]
end
theorem jj_mld {X : State → Prop} {y : MT} {pc : Nat} {lv : List (Option Value)} {st : List Value} {kc ks : Nat} {post : Option Value → Nat → HT → Prop} {G : GC} {B n m : Nat} {A : Nat → Nat → Int32} {Wy : Nat → Int64} {V : Nat → Int32} {h : HT} {j i : Nat} (N : Nat) (hd : lk (M_tb y) pc = some .iaload) (hN : msz j = N) (hj : j < 18 ∧ j ≠ 13) (hi : i < N) (K : JJ X G B y (pc + 1) lv (.int (A j i) :: st) n (wM B m A Wy V h) kc ks post) : JJ X G B y pc lv (.int (nI i) :: .ref (B + (m + (j + 1))) :: st) n (wM B m A Wy V h) kc ks post := by
  subst hN
  refine jj_ialdN hd (wM_a hj) hi ?_ K
  unfold msz
  split <;> rfl
theorem jj_mst {X : State → Prop} {y : MT} {pc : Nat} {lv : List (Option Value)} {st : List Value} {kc ks : Nat} {post : Option Value → Nat → HT → Prop} {G : GC} {B n m : Nat} {A : Nat → Nat → Int32} {Wy : Nat → Int64} {V : Nat → Int32} {h : HT} {j i : Nat} {x : Int32} (N : Nat) (hd : lk (M_tb y) pc = some .iastore) (hN : msz j = N) (hj : j < 18 ∧ j ≠ 13) (hi : i < N) (K : JJ X G B y (pc + 1) lv st n (wM B m (uF A j i x) Wy V h) kc ks post) : JJ X G B y pc lv (.int x :: .int (nI i) :: .ref (B + (m + (j + 1))) :: st) n (wM B m A Wy V h) kc ks post := by
  subst hN
  refine jj_iastN hd (wM_a hj) hi ?_ (jj_h (wM_put hj) K)
  unfold msz
  split <;> rfl
theorem jj_m0 {X : State → Prop} {y : MT} {pc : Nat} {lv : List (Option Value)} {st : List Value} {kc ks : Nat} {post : Option Value → Nat → HT → Prop} {G : GC} {B n m : Nat} {A : Nat → Nat → Int32} {Wy : Nat → Int64} {V : Nat → Int32} {h : HT} {N : Nat} (hw0 : A 0 0 = nI N) (hd : lk (M_tb y) pc = some .iaload) (K : JJ X G B y (pc + 1) lv (.int (nI N) :: st) n (wM B m A Wy V h) kc ks post) : JJ X G B y pc lv (.int 0 :: .ref (B + (m + 1)) :: st) n (wM B m A Wy V h) kc ks post := by
  refine jj_mld (j := 0) (i := 0) 645 hd rfl (by decide) (by decide) ?_
  rw [hw0]
  exact K
theorem jj_mpt {X : State → Prop} {y : MT} {pc : Nat} {lv : List (Option Value)} {st : List Value} {kc ks : Nat} {post : Option Value → Nat → HT → Prop} {G : GC} {B n m : Nat} {A : Nat → Nat → Int32} {Wy : Nat → Int64} {V : Nat → Int32} {h : HT} {idx k : Nat} {x : Int32} (hd : lk (M_tb y) pc = some (.putfield idx)) (hf : fld (M_own y) idx = some (9, k)) (hty : tyG 9 k = .int) (hfin : finG 9 k = false) (hk : Nat.blt k 26 = true) (he : (mobj B m V).set k (.int x) = mobj B m (upd V k x)) (K : JJ X G B y (pc + 3) lv st n (wM B m A Wy (upd V k x) h) kc ks post) : JJ X G B y pc lv (.int x :: .ref (B + m) :: st) n (wM B m A Wy V h) kc ks post := jj_p hd hf hty hfin wM_o hk (jj_h (wM_scal he) K)
/-- isIn -/
theorem c9_isIn {G : GC} {B n : Nat} {h : HT} (x a b : Int32) : CtJ G B M9_isIn [.int x, .int a, .int b] n h 0 0 (eqP (some (.int (bI (wth x a b)))) n h) := by
  unfold CtJ
  refine jj_lv (lv' := [some (.int x), some (.int a), some (.int b)]) rfl ?_
  refine jj_s (pc' := 1) rfl rfl ?_
  refine jj_s (pc' := 2) rfl rfl ?_
  refine jj_icmp_lt 14 rfl rfl (fun c1 => ?_) (fun c1 => ?_)
  · refine jj_s (pc' := 15) rfl rfl ?_
    exact jj_zret rfl rfl (Or.inl rfl) ⟨by simp [bI, wth, Int32.not_le.mpr c1], rfl, rfl⟩
  · refine jj_s (pc' := 6) rfl rfl ?_
    refine jj_s (pc' := 7) rfl rfl ?_
    refine jj_icmp_gt 14 rfl rfl (fun c2 => ?_) (fun c2 => ?_)
    · refine jj_s (pc' := 15) rfl rfl ?_
      exact jj_zret rfl rfl (Or.inl rfl) ⟨by simp [bI, wth, Int32.not_le.mpr c2], rfl, rfl⟩
    · refine jj_s (pc' := 11) rfl rfl ?_
      refine jj_s (pc' := 15) rfl rfl ?_
      exact jj_zret rfl rfl (Or.inr rfl) ⟨by simp [bI, wth, Int32.not_lt.mp c1, Int32.not_lt.mp c2], rfl, rfl⟩
theorem isN_wth {N : Nat} (hN : N ≤ 20) (x : Int32) : wth x 0 (nI N - 1) = isN N x := by
  unfold wth isN
  by_cases h0 : 0 ≤ x
  · obtain ⟨j, h1, rfl⟩ := nI_of (x := x) (Int32.not_lt.mpr h0)
    rcases Nat.eq_zero_or_pos N with hz | hz
    · subst hz
      have e1 : ¬ nI j ≤ nI 0 - 1 := fun q => absurd (Int32.le_trans (nI_pos' h1) q) (by decide)
      have e2 : ¬ nI j < nI 0 := fun q => absurd ((nI_ltI h1 (by omega)).mp q) (by omega)
      simp [e1, e2]
    · rw [show nI N - 1 = nI (N - 1) by rw [show N = (N - 1) + 1 by omega, nI_pred]; simp]
      have : (nI j ≤ nI (N - 1)) = (nI j < nI N) := by
        rw [nI_leI h1 (by omega), nI_ltI h1 (by omega)]
        apply propext
        omega
      simp [this]
  · simp [h0]
set_option maxHeartbeats 4000000 in
set_option maxRecDepth 100000 in
 theorem c9_isItem {G : GC} {B n m : Nat} {A : Nat → Nat → Int32} {Wy : Nat → Int64} {V : Nat → Int32} {h : HT} {N : Nat} (hN : N ≤ 20) (hw0 : A 0 0 = nI N) (x : Int32) : CtJ G B M9_isItem [.ref (B + m), .int x] n (wM B m A Wy V h) 0 0 (eqP (some (.int (bI (isN N x)))) n (wM B m A Wy V h)) := by
  unfold CtJ
  refine jj_lv (lv' := [some (.ref (B + m)), some (.int x)]) rfl ?_
  refine jj_s (pc' := 1) rfl rfl ?_
  refine jj_s (pc' := 2) rfl rfl ?_
  refine jj_s (pc' := 3) rfl rfl ?_
  refine jj_g rfl rfl wM_o rfl ?_
  refine jj_s (pc' := 7) rfl rfl ?_
  refine jj_m0 hw0 rfl ?_
  refine jj_s (pc' := 9) rfl rfl ?_
  refine jj_s (pc' := 10) rfl rfl ?_
  refine jj_t3 rfl rfl rfl rfl rfl (c9_isIn _ _ _) ?_
  exact jj_zret rfl rfl (bI_01 _) ⟨by rw [← isN_wth hN]; rfl, rfl, rfl⟩
abbrev ofW (w : Nat → Int32) (i a : Nat) : Int32 := w (5 + 12 * i + a)
theorem ixE (i a : Nat) : Int32.ofInt 5 + (Int8.ofInt 12).toInt32 * nI i + nI a = nI (5 + 12 * i + a) := by
  rw [show Int32.ofInt 5 = nI 5 from rfl, show (Int8.ofInt 12).toInt32 = nI 12 from rfl, pk_mul, nI_add, nI_add]
theorem ixK (p i : Nat) : (Int16.ofInt 245).toInt32 + (Int8.ofInt 20).toInt32 * nI p + nI i = nI (245 + 20 * p + i) := by
  rw [show (Int16.ofInt 245).toInt32 = nI 245 from rfl, show (Int8.ofInt 20).toInt32 = nI 20 from rfl, pk_mul, nI_add, nI_add]
set_option maxHeartbeats 4000000 in
set_option maxRecDepth 100000 in
 theorem c9_of {G : GC} {B n m : Nat} {A : Nat → Nat → Int32} {Wy : Nat → Int64} {V : Nat → Int32} {h : HT} {i a : Nat} (hi : i < 20) (ha : a < 12) : CtJ G B M9_of [.ref (B + m), .int (nI i), .int (nI a)] n (wM B m A Wy V h) 0 0 (eqP (some (.int (ofW (A 0) i a))) n (wM B m A Wy V h)) := by
  unfold CtJ
  refine jj_lv (lv' := [some (.ref (B + m)), some (.int (nI i)), some (.int (nI a))]) rfl ?_
  refine jj_s (pc' := 1) rfl rfl ?_
  refine jj_g rfl rfl wM_o rfl ?_
  refine jj_s (pc' := 5) rfl rfl ?_
  refine jj_s (pc' := 7) rfl rfl ?_
  refine jj_s (pc' := 8) rfl rfl ?_
  refine jj_s (pc' := 9) rfl rfl ?_
  refine jj_s (pc' := 10) rfl rfl ?_
  refine jj_s (pc' := 11) rfl rfl ?_
  refine jj_s (pc' := 12) rfl rfl ?_
  refine jj_st (by rw [ixE i a]) ?_
  refine jj_mld 645 rfl rfl (by decide) (by omega) ?_
  exact jj_iret rfl rfl ⟨rfl, rfl, rfl⟩
set_option maxHeartbeats 4000000 in
set_option maxRecDepth 100000 in
 theorem c9_set {G : GC} {B n m : Nat} {A : Nat → Nat → Int32} {Wy : Nat → Int64} {V : Nat → Int32} {h : HT} {i a : Nat} (hi : i < 20) (ha : a < 12) (x : Int32) : CtJ G B M9_set [.ref (B + m), .int (nI i), .int (nI a), .int x] n (wM B m A Wy V h) 0 0 (eqP none n (wM B m (uF A 0 (5 + 12 * i + a) x) Wy V h)) := by
  unfold CtJ
  refine jj_lv (lv' := [some (.ref (B + m)), some (.int (nI i)), some (.int (nI a)), some (.int x)]) rfl ?_
  refine jj_s (pc' := 1) rfl rfl ?_
  refine jj_g rfl rfl wM_o rfl ?_
  refine jj_s (pc' := 5) rfl rfl ?_
  refine jj_s (pc' := 7) rfl rfl ?_
  refine jj_s (pc' := 8) rfl rfl ?_
  refine jj_s (pc' := 9) rfl rfl ?_
  refine jj_s (pc' := 10) rfl rfl ?_
  refine jj_s (pc' := 11) rfl rfl ?_
  refine jj_s (pc' := 12) rfl rfl ?_
  refine jj_s (pc' := 13) rfl rfl ?_
  refine jj_st (by rw [ixE i a]) ?_
  refine jj_mst 645 rfl rfl (by decide) (by omega) ?_
  exact jj_vret rfl rfl ⟨rfl, rfl, rfl⟩
abbrev kdW (w : Nat → Int32) (p i : Nat) : Int32 := w (245 + 20 * p + i)
set_option maxHeartbeats 4000000 in
set_option maxRecDepth 100000 in
 theorem c9_kindOf {G : GC} {B n m : Nat} {A : Nat → Nat → Int32} {Wy : Nat → Int64} {V : Nat → Int32} {h : HT} {p i : Nat} (hp : p < 20) (hi : i < 20) : CtJ G B M9_kindOf [.ref (B + m), .int (nI p), .int (nI i)] n (wM B m A Wy V h) 0 0 (eqP (some (.int (kdW (A 0) p i - 1))) n (wM B m A Wy V h)) := by
  unfold CtJ
  refine jj_lv (lv' := [some (.ref (B + m)), some (.int (nI p)), some (.int (nI i))]) rfl ?_
  refine jj_s (pc' := 1) rfl rfl ?_
  refine jj_g rfl rfl wM_o rfl ?_
  refine jj_s (pc' := 7) rfl rfl ?_
  refine jj_s (pc' := 9) rfl rfl ?_
  refine jj_s (pc' := 10) rfl rfl ?_
  refine jj_s (pc' := 11) rfl rfl ?_
  refine jj_s (pc' := 12) rfl rfl ?_
  refine jj_s (pc' := 13) rfl rfl ?_
  refine jj_s (pc' := 14) rfl rfl ?_
  refine jj_st (by rw [ixK p i]) ?_
  refine jj_mld 645 rfl rfl (by decide) (by omega) ?_
  refine jj_s (pc' := 16) rfl rfl ?_
  refine jj_s (pc' := 17) rfl rfl ?_
  exact jj_iret rfl rfl ⟨rfl, rfl, rfl⟩
set_option maxHeartbeats 4000000 in
set_option maxRecDepth 100000 in
 theorem c9_hasEnded {G : GC} {B n m : Nat} {A : Nat → Nat → Int32} {Wy : Nat → Int64} {V : Nat → Int32} {h : HT} {i : Nat} (hi : i < 20) : CtJ G B M9_hasEnded [.ref (B + m), .int (nI i)] n (wM B m A Wy V h) 0 0 (eqP (some (.int (bI (decide (3 ≤ ofW (A 0) i 8))))) n (wM B m A Wy V h)) := by
  unfold CtJ
  refine jj_lv (lv' := [some (.ref (B + m)), some (.int (nI i))]) rfl ?_
  refine jj_s (pc' := 1) rfl rfl ?_
  refine jj_s (pc' := 2) rfl rfl ?_
  refine jj_s (pc' := 4) rfl rfl ?_
  refine jj_v2 rfl rfl rfl wM_o rfl rfl (c9_of (a := 8) (by omega) (by decide)) ?_
  refine jj_s (pc' := 8) rfl rfl ?_
  refine jj_icmp_lt 15 rfl rfl (fun (c : ofW (A 0) i 8 < 3) => ?_) (fun (c : ¬ ofW (A 0) i 8 < 3) => ?_)
  · refine jj_s (pc' := 16) rfl rfl ?_
    exact jj_zret rfl rfl (Or.inl rfl) ⟨by rw [decide_eq_false (Int32.not_le.mpr c)]; rfl, rfl, rfl⟩
  · refine jj_s (pc' := 12) rfl rfl ?_
    refine jj_s (pc' := 16) rfl rfl ?_
    exact jj_zret rfl rfl (Or.inr rfl) ⟨by rw [decide_eq_true (Int32.not_lt.mp c)]; rfl, rfl, rfl⟩
set_option maxHeartbeats 4000000 in
set_option maxRecDepth 100000 in
 theorem c9_ownWork {G : GC} {B n m : Nat} {A : Nat → Nat → Int32} {Wy : Nat → Int64} {V : Nat → Int32} {h : HT} {i : Nat} (hi : i < 20) : CtJ G B M9_ownWork [.ref (B + m), .int (nI i)] n (wM B m A Wy V h) 0 0 (eqP (some (.int (if 3 ≤ ofW (A 0) i 8 then 0 else ofW (A 0) i 1))) n (wM B m A Wy V h)) := by
  unfold CtJ
  refine jj_lv (lv' := [some (.ref (B + m)), some (.int (nI i))]) rfl ?_
  refine jj_s (pc' := 1) rfl rfl ?_
  refine jj_s (pc' := 2) rfl rfl ?_
  refine jj_v1 rfl rfl rfl wM_o rfl rfl (c9_hasEnded (by omega)) ?_
  refine jj_zT 12 rfl rfl (fun c => ?_) (fun c => ?_)
  · refine jj_s (pc' := 13) rfl rfl ?_
    refine jj_s (pc' := 14) rfl rfl ?_
    refine jj_s (pc' := 15) rfl rfl ?_
    refine jj_v2 rfl rfl rfl wM_o rfl rfl (c9_of (a := 1) (by omega) (by decide)) ?_
    exact jj_iret rfl rfl ⟨by rw [if_neg (of_decide_eq_false c)], rfl, rfl⟩
  · refine jj_s (pc' := 9) rfl rfl ?_
    refine jj_s (pc' := 18) rfl rfl ?_
    exact jj_iret rfl rfl ⟨by rw [if_pos (of_decide_eq_true c)]; rfl, rfl, rfl⟩
abbrev brA (A : Nat → Nat → Int32) (i : Nat) (x : Int32) : Nat → Nat → Int32 := uF (uF (uF A 0 (5 + 12 * i + 8) 1) 0 (5 + 12 * i + 6) x) 0 (5 + 12 * i + 10) (A 0 1)
theorem uF_same (A : Nat → Nat → Int32) (j i : Nat) (x : Int32) : uF A j i x j = upd (A j) i x := by simp [uF, upF]
set_option maxHeartbeats 4000000 in
set_option maxRecDepth 100000 in
 theorem c9_becomesReady {G : GC} {B n m : Nat} {A : Nat → Nat → Int32} {Wy : Nat → Int64} {V : Nat → Int32} {h : HT} {i : Nat} (hi : i < 20) (x : Int32) : CtJ G B M9_becomesReady [.ref (B + m), .int (nI i), .int x] n (wM B m A Wy V h) 0 0 (eqP none n (wM B m (brA A i x) Wy V h)) := by
  unfold CtJ
  refine jj_lv (lv' := [some (.ref (B + m)), some (.int (nI i)), some (.int x)]) rfl ?_
  refine jj_s (pc' := 1) rfl rfl ?_
  refine jj_s (pc' := 2) rfl rfl ?_
  refine jj_s (pc' := 4) rfl rfl ?_
  refine jj_s (pc' := 5) rfl rfl ?_
  refine jj_w3 rfl rfl rfl wM_o rfl rfl (c9_set (a := 8) (by omega) (by decide) _) ?_
  refine jj_s (pc' := 9) rfl rfl ?_
  refine jj_s (pc' := 10) rfl rfl ?_
  refine jj_s (pc' := 12) rfl rfl ?_
  refine jj_s (pc' := 13) rfl rfl ?_
  refine jj_w3 rfl rfl rfl wM_o rfl rfl (c9_set (a := 6) (by omega) (by decide) _) ?_
  refine jj_s (pc' := 17) rfl rfl ?_
  refine jj_s (pc' := 18) rfl rfl ?_
  refine jj_s (pc' := 20) rfl rfl ?_
  refine jj_s (pc' := 21) rfl rfl ?_
  refine jj_g rfl rfl wM_o rfl ?_
  refine jj_s (pc' := 25) rfl rfl ?_
  refine jj_mld (i := 1) 645 rfl rfl (by decide) (by decide) ?_
  refine jj_w3 rfl rfl rfl wM_o rfl rfl (c9_set (a := 10) (by omega) (by decide) _) ?_
  refine jj_vret rfl rfl ⟨rfl, rfl, ?_⟩
  rw [uF_same, pk_un (by omega), uF_same, pk_un (by omega)]
  rfl
set_option maxHeartbeats 4000000 in
set_option maxRecDepth 100000 in
 theorem c9_comeBack {G : GC} {B n m : Nat} {A : Nat → Nat → Int32} {Wy : Nat → Int64} {V : Nat → Int32} {h : HT} {i : Nat} (hi : i < 20) (x : Int32) : CtJ G B M9_comeBack [.ref (B + m), .int (nI i), .int x] n (wM B m A Wy V h) 0 0 (eqP none n (wM B m (if ofW (A 0) i 5 < ofW (A 0) i 2 then brA A i x else uF A 0 (5 + 12 * i + 8) 6) Wy V h)) := by
  unfold CtJ
  refine jj_lv (lv' := [some (.ref (B + m)), some (.int (nI i)), some (.int x)]) rfl ?_
  refine jj_s (pc' := 1) rfl rfl ?_
  refine jj_s (pc' := 2) rfl rfl ?_
  refine jj_s (pc' := 3) rfl rfl ?_
  refine jj_v2 rfl rfl rfl wM_o rfl rfl (c9_of (a := 5) (by omega) (by decide)) ?_
  refine jj_s (pc' := 7) rfl rfl ?_
  refine jj_s (pc' := 8) rfl rfl ?_
  refine jj_s (pc' := 9) rfl rfl ?_
  refine jj_v2 rfl rfl rfl wM_o rfl rfl (c9_of (a := 2) (by omega) (by decide)) ?_
  refine jj_icmp_lt 27 rfl rfl (fun c => ?_) (fun c => ?_)
  · refine jj_s (pc' := 28) rfl rfl ?_
    refine jj_s (pc' := 29) rfl rfl ?_
    refine jj_s (pc' := 30) rfl rfl ?_
    refine jj_w2 rfl rfl rfl wM_o rfl rfl (c9_becomesReady hi _) ?_
    exact jj_vret rfl rfl ⟨rfl, rfl, by rw [if_pos c]⟩
  · refine jj_s (pc' := 16) rfl rfl ?_
    refine jj_s (pc' := 17) rfl rfl ?_
    refine jj_s (pc' := 19) rfl rfl ?_
    refine jj_s (pc' := 21) rfl rfl ?_
    refine jj_w3 rfl rfl rfl wM_o rfl rfl (c9_set (a := 8) (by omega) (by decide) _) ?_
    refine jj_s (pc' := 33) rfl rfl ?_
    exact jj_vret rfl rfl ⟨rfl, rfl, by rw [if_neg c]; rfl⟩
set_option maxHeartbeats 4000000 in
set_option maxRecDepth 100000 in
 theorem c9_isValid {G : GC} {B n m : Nat} {A : Nat → Nat → Int32} {Wy : Nat → Int64} {V : Nat → Int32} {h : HT} {i : Nat} (hi : i < 20) (x : Int32) : CtJ G B M9_isValid [.ref (B + m), .int (nI i), .int x] n (wM B m A Wy V h) 0 0 (eqP (some (.int (bI (decide (ofW (A 0) i 8 = 2 ∧ ofW (A 0) i 9 = x))))) n (wM B m A Wy V h)) := by
  unfold CtJ
  refine jj_lv (lv' := [some (.ref (B + m)), some (.int (nI i)), some (.int x)]) rfl ?_
  refine jj_s (pc' := 1) rfl rfl ?_
  refine jj_s (pc' := 2) rfl rfl ?_
  refine jj_s (pc' := 4) rfl rfl ?_
  refine jj_v2 rfl rfl rfl wM_o rfl rfl (c9_of (a := 8) (by omega) (by decide)) ?_
  refine jj_s (pc' := 8) rfl rfl ?_
  refine jj_icmp_ne 26 rfl rfl (fun (c : ¬ ofW (A 0) i 8 = 2) => ?_) (fun (c : ofW (A 0) i 8 = 2) => ?_)
  · refine jj_s (pc' := 27) rfl rfl ?_
    exact jj_zret rfl rfl (Or.inl rfl) ⟨by rw [decide_eq_false (fun q => c q.1)]; rfl, rfl, rfl⟩
  · refine jj_s (pc' := 12) rfl rfl ?_
    refine jj_s (pc' := 13) rfl rfl ?_
    refine jj_s (pc' := 15) rfl rfl ?_
    refine jj_v2 rfl rfl rfl wM_o rfl rfl (c9_of (a := 9) (by omega) (by decide)) ?_
    refine jj_s (pc' := 19) rfl rfl ?_
    refine jj_icmp_ne 26 rfl rfl (fun (c2 : ¬ ofW (A 0) i 9 = x) => ?_) (fun (c2 : ofW (A 0) i 9 = x) => ?_)
    · refine jj_s (pc' := 27) rfl rfl ?_
      exact jj_zret rfl rfl (Or.inl rfl) ⟨by rw [decide_eq_false (fun q => c2 q.2)]; rfl, rfl, rfl⟩
    · refine jj_s (pc' := 23) rfl rfl ?_
      refine jj_s (pc' := 27) rfl rfl ?_
      exact jj_zret rfl rfl (Or.inr rfl) ⟨by rw [decide_eq_true ⟨c, c2⟩]; rfl, rfl, rfl⟩
