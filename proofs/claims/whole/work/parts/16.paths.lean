/-! an object with m rows of twenty behind it -/
def wA (o m : Nat) (obj : AE) (P : Nat → Nat → Int32) (h : HT) : HT := fun k => if k = o then some obj else if o < k ∧ k < o + 1 + m then some (ia 20 (P (k - (o + 1)))) else h k
theorem wA_o {o m : Nat} {obj : AE} {P : Nat → Nat → Int32} {h : HT} : wA o m obj P h o = some obj := if_pos rfl
theorem wA_a {o m : Nat} {obj : AE} {P : Nat → Nat → Int32} {h : HT} {j : Nat} (hj : j < m) : wA o m obj P h (o + (j + 1)) = some (ia 20 (P j)) := by
  unfold wA
  rw [if_neg (by omega), if_pos (by omega), show o + (j + 1) - (o + 1) = j by omega]
theorem wA_n {o m : Nat} {obj : AE} {P : Nat → Nat → Int32} {h : HT} {k : Nat} (hk : k < o ∨ o + 1 + m ≤ k) : wA o m obj P h k = h k := by
  unfold wA
  rw [if_neg (by omega), if_neg (by omega)]
theorem wA_put {o m : Nat} {obj : AE} {P : Nat → Nat → Int32} {h : HT} {j i : Nat} {x : Int32} (hj : j < m) : hu (wA o m obj P h) (o + (j + 1)) (ia 20 (upd (P j) i x)) = wA o m obj (uF P j i x) h := by
  funext k
  by_cases hk : k = o + (j + 1)
  · subst hk
    rw [hu_s, wA_a hj]
    simp [uF, upF]
  · rw [hu_n _ _ _ hk]
    unfold wA
    split
    next => rfl
    next h1 =>
      split
      next h2 => rw [uF_j _ _ _ _ (by omega)]
      next => rfl
theorem wA_obj {o m : Nat} {obj obj' : AE} {P : Nat → Nat → Int32} {h : HT} : hu (wA o m obj P h) o obj' = wA o m obj' P h := by
  funext k
  by_cases hk : k = o
  · subst hk
    rw [hu_s, wA_o]
  · rw [hu_n _ _ _ hk]
    unfold wA
    rw [if_neg hk, if_neg hk]
theorem wQ_hu {B q N : Nat} {S : Nat → Int32} {F : Nat → Nat → Int32} {h : HT} {k : Nat} {e : AE} (hk : k < q ∨ q + 14 ≤ k) : hu (wQ B q N S F h) k e = wQ B q N S F (hu h k e) := by
  funext j
  by_cases hj : j = k
  · subst hj
    rw [hu_s, wQ_n hk, hu_s]
  · rw [hu_n _ _ _ hj]
    unfold wQ
    split
    next => rfl
    next =>
      split
      next => rfl
      next => rw [hu_n _ _ _ hj]
theorem jj_ald1 {X : State → Prop} {G : GC} {B : Nat} {y : MT} {pc : Nat} {lv : List (Option Value)} {st : List Value} {n : Nat} {h : HT} {kc ks : Nat} {post : Option Value → Nat → HT → Prop} {o m : Nat} {obj : AE} {P : Nat → Nat → Int32} {j i : Nat} (hd : lk (M_tb y) pc = some .iaload) (hj : j < m) (hi : i < 20) (K : JJ X G B y (pc + 1) lv (.int (P j i) :: st) n (wA o m obj P h) kc ks post) : JJ X G B y pc lv (.int (nI i) :: .ref (B + (o + (j + 1))) :: st) n (wA o m obj P h) kc ks post := jj_ialdN hd (wA_a hj) hi rfl K
theorem jj_ast1 {X : State → Prop} {G : GC} {B : Nat} {y : MT} {pc : Nat} {lv : List (Option Value)} {st : List Value} {n : Nat} {h : HT} {kc ks : Nat} {post : Option Value → Nat → HT → Prop} {o m : Nat} {obj : AE} {P : Nat → Nat → Int32} {j i : Nat} {x : Int32} (hd : lk (M_tb y) pc = some .iastore) (hj : j < m) (hi : i < 20) (K : JJ X G B y (pc + 1) lv st n (wA o m obj (uF P j i x) h) kc ks post) : JJ X G B y pc lv (.int x :: .int (nI i) :: .ref (B + (o + (j + 1))) :: st) n (wA o m obj P h) kc ks post := jj_iastN hd (wA_a hj) hi rfl (jj_h (wA_put hj) K)
theorem wQA_a {B q N : Nat} {S : Nat → Int32} {F : Nat → Nat → Int32} {o m : Nat} {obj : AE} {P : Nat → Nat → Int32} {h : HT} {j : Nat} (hj : j < m) (hd : o + (m + 1) ≤ q ∨ q + 14 ≤ o) : wQ B q N S F (wA o m obj P h) (o + (j + 1)) = some (ia 20 (P j)) := (wQ_n (by omega)).trans (wA_a hj)
theorem wQA_o {B q N : Nat} {S : Nat → Int32} {F : Nat → Nat → Int32} {o m : Nat} {obj : AE} {P : Nat → Nat → Int32} {h : HT} (hd : o + (m + 1) ≤ q ∨ q + 14 ≤ o) : wQ B q N S F (wA o m obj P h) o = some obj := (wQ_n (by omega)).trans wA_o
theorem jj_ald2 {X : State → Prop} {G : GC} {B : Nat} {y : MT} {pc : Nat} {lv : List (Option Value)} {st : List Value} {n : Nat} {h : HT} {kc ks : Nat} {post : Option Value → Nat → HT → Prop} {q N : Nat} {S : Nat → Int32} {F : Nat → Nat → Int32} {o m : Nat} {obj : AE} {P : Nat → Nat → Int32} {j i : Nat} (hd : lk (M_tb y) pc = some .iaload) (hj : j < m) (hi : i < 20) (ha : o + (m + 1) ≤ q ∨ q + 14 ≤ o) (K : JJ X G B y (pc + 1) lv (.int (P j i) :: st) n (wQ B q N S F (wA o m obj P h)) kc ks post) : JJ X G B y pc lv (.int (nI i) :: .ref (B + (o + (j + 1))) :: st) n (wQ B q N S F (wA o m obj P h)) kc ks post := jj_ialdN hd (wQA_a hj ha) hi rfl K
theorem jj_ast2 {X : State → Prop} {G : GC} {B : Nat} {y : MT} {pc : Nat} {lv : List (Option Value)} {st : List Value} {n : Nat} {h : HT} {kc ks : Nat} {post : Option Value → Nat → HT → Prop} {q N : Nat} {S : Nat → Int32} {F : Nat → Nat → Int32} {o m : Nat} {obj : AE} {P : Nat → Nat → Int32} {j i : Nat} {x : Int32} (hd : lk (M_tb y) pc = some .iastore) (hj : j < m) (hi : i < 20) (ha : o + (m + 1) ≤ q ∨ q + 14 ≤ o) (K : JJ X G B y (pc + 1) lv st n (wQ B q N S F (wA o m obj (uF P j i x) h)) kc ks post) : JJ X G B y pc lv (.int x :: .int (nI i) :: .ref (B + (o + (j + 1))) :: st) n (wQ B q N S F (wA o m obj P h)) kc ks post := jj_iastN hd (wQA_a hj ha) hi rfl (jj_h ((wQ_hu (by omega)).trans (by rw [wA_put hj])) K)
/-! Integer.bitCount, as it is written -/
theorem tw_c265 : Cond.constant (M_nm M6_bitCount_0f7a4).cls 265 1431655765 ∈ tW := tm2 116 rfl rfl
theorem tw_c266 : Cond.constant (M_nm M6_bitCount_0f7a4).cls 266 858993459 ∈ tW := tm2 117 rfl rfl
theorem tw_c267 : Cond.constant (M_nm M6_bitCount_0f7a4).cls 267 252645135 ∈ tW := tm2 118 rfl rfl
def us (x : Int32) (k : Int32) : Int32 := (x.toUInt32 >>> (k.toUInt32 &&& Int32.toUInt32 31)).toInt32
def bc1 (x : Int32) : Int32 := x - (us x 1 &&& 1431655765)
def bc2 (x : Int32) : Int32 := (x &&& 858993459) + (us x 2 &&& 858993459)
def bc3 (x : Int32) : Int32 := (x + us x 4) &&& 252645135
def bc4 (x : Int32) : Int32 := x + us x 8
def bc5 (x : Int32) : Int32 := x + us x 16
def bcF (x : Int32) : Int32 := bc5 (bc4 (bc3 (bc2 (bc1 x)))) &&& 63
set_option maxHeartbeats 4000000 in
set_option maxRecDepth 100000 in
 theorem c_bitCount {G : GC} {B n : Nat} {h : HT} (x : Int32) : CtJ G B M6_bitCount_0f7a4 [.int x] n h 0 0 (eqP (some (.int (bcF x))) n h) := by
  unfold CtJ
  refine jj_lv (lv' := [some (.int x)]) rfl ?_
  unfold bcF
  refine jj_s (pc' := 1) rfl rfl ?_
  refine jj_s (pc' := 2) rfl rfl ?_
  refine jj_s (pc' := 3) rfl rfl ?_
  refine jj_s (pc' := 4) rfl rfl ?_
  refine jj_ldcw rfl tw_c265 ?_
  refine jj_s (pc' := 8) rfl rfl ?_
  refine jj_s (pc' := 9) rfl rfl ?_
  refine jj_s (pc' := 10) rfl rfl ?_
  refine jj_lv (lv' := [some (.int (bc1 x))]) rfl ?_
  generalize bc1 x = y
  refine jj_s (pc' := 11) rfl rfl ?_
  refine jj_ldcw rfl tw_c266 ?_
  refine jj_s (pc' := 15) rfl rfl ?_
  refine jj_s (pc' := 16) rfl rfl ?_
  refine jj_s (pc' := 17) rfl rfl ?_
  refine jj_s (pc' := 18) rfl rfl ?_
  refine jj_ldcw rfl tw_c266 ?_
  refine jj_s (pc' := 22) rfl rfl ?_
  refine jj_s (pc' := 23) rfl rfl ?_
  refine jj_s (pc' := 24) rfl rfl ?_
  refine jj_lv (lv' := [some (.int (bc2 y))]) rfl ?_
  generalize bc2 y = y
  refine jj_s (pc' := 25) rfl rfl ?_
  refine jj_s (pc' := 26) rfl rfl ?_
  refine jj_s (pc' := 27) rfl rfl ?_
  refine jj_s (pc' := 28) rfl rfl ?_
  refine jj_s (pc' := 29) rfl rfl ?_
  refine jj_ldcw rfl tw_c267 ?_
  refine jj_s (pc' := 33) rfl rfl ?_
  refine jj_s (pc' := 34) rfl rfl ?_
  refine jj_lv (lv' := [some (.int (bc3 y))]) rfl ?_
  generalize bc3 y = y
  refine jj_s (pc' := 35) rfl rfl ?_
  refine jj_s (pc' := 36) rfl rfl ?_
  refine jj_s (pc' := 38) rfl rfl ?_
  refine jj_s (pc' := 39) rfl rfl ?_
  refine jj_s (pc' := 40) rfl rfl ?_
  refine jj_s (pc' := 41) rfl rfl ?_
  refine jj_s (pc' := 42) rfl rfl ?_
  refine jj_s (pc' := 43) rfl rfl ?_
  refine jj_s (pc' := 45) rfl rfl ?_
  refine jj_s (pc' := 46) rfl rfl ?_
  refine jj_s (pc' := 47) rfl rfl ?_
  refine jj_s (pc' := 48) rfl rfl ?_
  refine jj_s (pc' := 49) rfl rfl ?_
  refine jj_s (pc' := 51) rfl rfl ?_
  refine jj_s (pc' := 52) rfl rfl ?_
  exact jj_iret rfl rfl ⟨rfl, rfl, rfl⟩
/-- a sum -/
def sm (f : Nat → Int32) : Nat → Int32
  | 0 => 0
  | k + 1 => sm f k + f k
set_option maxHeartbeats 4000000 in
set_option maxRecDepth 100000 in
 theorem c_edgeCount {G : GC} {B n : Nat} {h : HT} {q N : Nat} {S : Nat → Int32} {F : Nat → Nat → Int32} (hN : N ≤ 20) : CtJ G B M5_edgeCount [.ref (B + q)] n (wQ B q N S F h) 0 0 (eqP (some (.int (sm (fun i => bcF (prd F i)) N))) n (wQ B q N S F h)) := by
  unfold CtJ
  refine jj_lv (lv' := [some (.ref (B + q)), none, none]) rfl ?_
  refine jj_s (pc' := 1) rfl rfl ?_
  refine jj_s (pc' := 2) rfl rfl ?_
  refine jj_s (pc' := 3) rfl rfl ?_
  refine jj_s (pc' := 4) rfl rfl ?_
  have L : ∀ d k, k ≤ N → N + 1 ≤ k + d → JJ X0 G B M5_edgeCount 4 [some (.ref (B + q)), some (.int (sm (fun i => bcF (prd F i)) k)), some (.int (nI k))] [] n (wQ B q N S F h) 0 0 (eqP (some (.int (sm (fun i => bcF (prd F i)) N))) n (wQ B q N S F h)) := by
    intro d
    induction d with
    | zero => intro k h1 h2; exact absurd h2 (by omega)
    | succ d ih =>
      intro k h1 h2
      refine jj_s (pc' := 5) rfl rfl ?_
      refine jj_s (pc' := 6) rfl rfl ?_
      refine jj_g rfl rfl wQ_o rfl ?_
      refine jj_geN 29 rfl rfl (by omega) (by omega) (fun c => ?_) (fun c => ?_)
      · refine jj_s (pc' := 30) rfl rfl ?_
        exact jj_iret rfl rfl ⟨by rw [show k = N by omega], rfl, rfl⟩
      · refine jj_s (pc' := 13) rfl rfl ?_
        refine jj_s (pc' := 14) rfl rfl ?_
        refine jj_s (pc' := 15) rfl rfl ?_
        refine jj_v1 rfl rfl rfl wQ_o rfl rfl (c_predecessors (by omega)) ?_
        refine jj_t1 rfl rfl rfl rfl rfl (c_bitCount _) ?_
        refine jj_s (pc' := 22) rfl rfl ?_
        refine jj_s (pc' := 23) rfl rfl ?_
        first | refine jj_inc rfl rfl ?_ | refine jj_s (pc' := 26) rfl rfl ?_
        refine jj_s (pc' := 4) rfl rfl ?_
        exact ih (k + 1) (by omega) (by omega)
  exact L (N + 1) 0 (by omega) (by omega)
theorem c_endAs {G : GC} {B n : Nat} {h : HT} {q N : Nat} {S : Nat → Int32} {F : Nat → Nat → Int32} (hN : N ≤ 20) {i : Nat} (hi : i < 20) (e w : Int32) : CtJ G B M5_endAs [.ref (B + q), .int (nI i), .int e, .int w] n (wQ B q N S F h) 0 0 (eqP (some (.int (bcF (msk (fun j => decide (stl S N 1000 (uF F 5 i e) 5 j = w)) N &&& (msk (fun j => decide (F 5 j = w)) N ^^^ -1))))) n (wQ B q N S (stl S N 1000 (uF F 5 i e)) h)) := c_endAs_open hN hi e w bcF (fun x n h => c_bitCount x)
/-! Paths -/
abbrev pob (B o q : Nat) : AE := ob 3 [.ref (B + q), .ref (B + (o + 1)), .ref (B + (o + 2)), .ref (B + (o + 3))]
def bi (F P : Nat → Nat → Int32) : Nat → (Nat → Nat → Int32)
  | 0 => P
  | k + 1 => uF (bi F P k) 0 k (prd F k)
def wi (m : Nat) (P : Nat → Nat → Int32) : Nat → (Nat → Nat → Int32)
  | 0 => P
  | k + 1 => if bt (wi m P k 0 k) m = true then uF (wi m P k) 0 k (wi m P k 0 k ||| wi m P k 0 m) else wi m P k
def wo (N : Nat) (P : Nat → Nat → Int32) : Nat → (Nat → Nat → Int32)
  | 0 => P
  | m + 1 => wi m (wo N P m) N
def bfS (F : Nat → Nat → Int32) (N : Nat) (P : Nat → Nat → Int32) : Nat → Nat → Int32 := wo N (bi F P N) N
set_option maxHeartbeats 4000000 in
set_option maxRecDepth 100000 in
 theorem c_beforeSets {G : GC} {B n : Nat} {h : HT} {q N : Nat} {S : Nat → Int32} {F : Nat → Nat → Int32} {o : Nat} {P : Nat → Nat → Int32} (hN : N ≤ 20) (ha : o + 4 ≤ q ∨ q + 14 ≤ o) : CtJ G B M3_beforeSets [.ref (B + o)] n (wQ B q N S F (wA o 3 (pob B o q) P h)) 0 0 (eqP (some (.ref (B + (o + 1)))) n (wQ B q N S F (wA o 3 (pob B o q) (bfS F N P) h))) := by
  have oP : ∀ P, wQ B q N S F (wA o 3 (pob B o q) P h) o = some (pob B o q) := fun P => wQA_o ha
  unfold CtJ
  refine jj_lv (lv' := [some (.ref (B + o)), none, none]) rfl ?_
  refine jj_s (pc' := 1) rfl rfl ?_
  refine jj_s (pc' := 2) rfl rfl ?_
  have L1 : ∀ d k, k ≤ N → N + 1 ≤ k + d → JJ X0 G B M3_beforeSets 2 [some (.ref (B + o)), some (.int (nI k)), none] [] n (wQ B q N S F (wA o 3 (pob B o q) (bi F P k) h)) 0 0 (eqP (some (.ref (B + (o + 1)))) n (wQ B q N S F (wA o 3 (pob B o q) (bfS F N P) h))) := by
    intro d
    induction d with
    | zero => intro k h1 h2; exact absurd h2 (by omega)
    | succ d ih =>
      intro k h1 h2
      refine jj_s (pc' := 3) rfl rfl ?_
      refine jj_s (pc' := 4) rfl rfl ?_
      refine jj_g rfl rfl (oP _) rfl ?_
      refine jj_g rfl rfl wQ_o rfl ?_
      refine jj_geN 33 rfl rfl (by omega) (by omega) (fun c => ?_) (fun c => ?_)
      · rw [show k = N by omega]
        refine jj_s (pc' := 34) rfl rfl ?_
        refine jj_s (pc' := 35) rfl rfl ?_
        have L2 : ∀ d m z, m ≤ N → N + 1 ≤ m + d → JJ X0 G B M3_beforeSets 35 [some (.ref (B + o)), some (.int (nI m)), z] [] n (wQ B q N S F (wA o 3 (pob B o q) (wo N (bi F P N) m) h)) 0 0 (eqP (some (.ref (B + (o + 1)))) n (wQ B q N S F (wA o 3 (pob B o q) (bfS F N P) h))) := by
          intro d
          induction d with
          | zero => intro m z h1 h2; exact absurd h2 (by omega)
          | succ d ihm =>
            intro m z h1 h2
            refine jj_s (pc' := 36) rfl rfl ?_
            refine jj_s (pc' := 37) rfl rfl ?_
            refine jj_g rfl rfl (oP _) rfl ?_
            refine jj_g rfl rfl wQ_o rfl ?_
            refine jj_geN 99 rfl rfl (by omega) (by omega) (fun c => ?_) (fun c => ?_)
            · refine jj_s (pc' := 100) rfl rfl ?_
              refine jj_g rfl rfl (oP _) rfl ?_
              exact jj_aret rfl rfl ⟨rfl, rfl, by rw [show m = N by omega]; rfl⟩
            · refine jj_s (pc' := 47) rfl rfl ?_
              refine jj_s (pc' := 48) rfl rfl ?_
              have L3 : ∀ d k, k ≤ N → N + 1 ≤ k + d → JJ X0 G B M3_beforeSets 48 [some (.ref (B + o)), some (.int (nI m)), some (.int (nI k))] [] n (wQ B q N S F (wA o 3 (pob B o q) (wi m (wo N (bi F P N) m) k) h)) 0 0 (eqP (some (.ref (B + (o + 1)))) n (wQ B q N S F (wA o 3 (pob B o q) (bfS F N P) h))) := by
                intro d
                induction d with
                | zero => intro k h1 h2; exact absurd h2 (by omega)
                | succ d ihk =>
                  intro k h1 h2
                  refine jj_s (pc' := 49) rfl rfl ?_
                  refine jj_s (pc' := 50) rfl rfl ?_
                  refine jj_g rfl rfl (oP _) rfl ?_
                  refine jj_g rfl rfl wQ_o rfl ?_
                  refine jj_geN 93 rfl rfl (by omega) (by omega) (fun c => ?_) (fun c => ?_)
                  · rw [show k = N by omega]
                    first | refine jj_inc rfl rfl ?_ | refine jj_s (pc' := 96) rfl rfl ?_
                    refine jj_s (pc' := 35) rfl rfl ?_
                    exact ihm (m + 1) _ (by omega) (by omega)
                  · refine jj_s (pc' := 60) rfl rfl ?_
                    refine jj_g rfl rfl (oP _) rfl ?_
                    refine jj_s (pc' := 64) rfl rfl ?_
                    refine jj_ald2 rfl (by decide) (by first | assumption | omega) (by first | assumption | omega) ?_
                    refine jj_s (pc' := 66) rfl rfl ?_
                    refine jj_t2 rfl rfl rfl rfl rfl (c_has (by omega)) ?_
                    refine jj_zT 87 rfl rfl (fun c3 => ?_) (fun c3 => ?_)
                    · first | refine jj_inc rfl rfl ?_ | refine jj_s (pc' := 90) rfl rfl ?_
                      refine jj_s (pc' := 48) rfl rfl ?_
                      have e : wi m (wo N (bi F P N) m) (k + 1) = wi m (wo N (bi F P N) m) k := by rw [wi, if_neg (by rw [c3]; decide)]
                      refine jj_h ?_ (ihk (k + 1) (by omega) (by omega))
                      rw [e]
                    · refine jj_s (pc' := 73) rfl rfl ?_
                      refine jj_g rfl rfl (oP _) rfl ?_
                      refine jj_s (pc' := 77) rfl rfl ?_
                      refine jj_s (pc' := 78) rfl rfl ?_
                      refine jj_ald2 rfl (by decide) (by first | assumption | omega) (by first | assumption | omega) ?_
                      refine jj_s (pc' := 80) rfl rfl ?_
                      refine jj_g rfl rfl (oP _) rfl ?_
                      refine jj_s (pc' := 84) rfl rfl ?_
                      refine jj_ald2 rfl (by decide) (by first | assumption | omega) (by first | assumption | omega) ?_
                      refine jj_s (pc' := 86) rfl rfl ?_
                      refine jj_ast2 rfl (by decide) (by first | assumption | omega) (by first | assumption | omega) ?_
                      first | refine jj_inc rfl rfl ?_ | refine jj_s (pc' := 90) rfl rfl ?_
                      refine jj_s (pc' := 48) rfl rfl ?_
                      have e : wi m (wo N (bi F P N) m) (k + 1) = uF (wi m (wo N (bi F P N) m) k) 0 k (wi m (wo N (bi F P N) m) k 0 k ||| wi m (wo N (bi F P N) m) k 0 m) := by rw [wi, if_pos c3]
                      refine jj_h ?_ (ihk (k + 1) (by omega) (by omega))
                      rw [e]
              exact L3 (N + 1) 0 (by omega) (by omega)
        exact L2 (N + 1) 0 none (by omega) (by omega)
      · refine jj_s (pc' := 14) rfl rfl ?_
        refine jj_g rfl rfl (oP _) rfl ?_
        refine jj_s (pc' := 18) rfl rfl ?_
        refine jj_s (pc' := 19) rfl rfl ?_
        refine jj_g rfl rfl (oP _) rfl ?_
        refine jj_s (pc' := 23) rfl rfl ?_
        refine jj_v1 rfl rfl rfl wQ_o rfl rfl (c_predecessors (by omega)) ?_
        refine jj_ast2 rfl (by decide) (by omega) ha ?_
        first | refine jj_inc rfl rfl ?_ | refine jj_s (pc' := 30) rfl rfl ?_
        refine jj_s (pc' := 2) rfl rfl ?_
        exact ih (k + 1) (by omega) (by omega)
  exact L1 (N + 1) 0 (by omega) (by omega)
set_option maxHeartbeats 4000000 in
set_option maxRecDepth 100000 in
 theorem c_hasDetour {G : GC} {B n : Nat} {h : HT} {q N : Nat} {S : Nat → Int32} {F : Nat → Nat → Int32} {o : Nat} {P : Nat → Nat → Int32} (hN : N ≤ 20) (ha : o + 4 ≤ q ∨ q + 14 ≤ o) {p i : Nat} (hp : p < 20) (hi : i < 20) : CtJ G B M3_hasDetour [.ref (B + o), .int (nI p), .int (nI i)] n (wQ B q N S F (wA o 3 (pob B o q) P h)) 0 0 (eqP (some (.int (bI (anyN (fun k => bt (prd F i) k && bt (bfS F N P 0 k) p) N)))) n (wQ B q N S F (wA o 3 (pob B o q) (bfS F N P) h))) := by
  have oP : ∀ P, wQ B q N S F (wA o 3 (pob B o q) P h) o = some (pob B o q) := fun P => wQA_o ha
  unfold CtJ
  refine jj_lv (lv' := [some (.ref (B + o)), some (.int (nI p)), some (.int (nI i)), none, none]) rfl ?_
  refine jj_s (pc' := 1) rfl rfl ?_
  refine jj_v0 rfl rfl rfl (oP _) rfl rfl (c_beforeSets hN ha) ?_
  refine jj_s (pc' := 5) rfl rfl ?_
  refine jj_s (pc' := 6) rfl rfl ?_
  refine jj_s (pc' := 8) rfl rfl ?_
  have L : ∀ d k, k ≤ N → N + 1 ≤ k + d → anyN (fun k => bt (prd F i) k && bt (bfS F N P 0 k) p) k = false → JJ X0 G B M3_hasDetour 8 [some (.ref (B + o)), some (.int (nI p)), some (.int (nI i)), some (.ref (B + (o + 1))), some (.int (nI k))] [] n (wQ B q N S F (wA o 3 (pob B o q) (bfS F N P) h)) 0 0 (eqP (some (.int (bI (anyN (fun k => bt (prd F i) k && bt (bfS F N P 0 k) p) N)))) n (wQ B q N S F (wA o 3 (pob B o q) (bfS F N P) h))) := by
    intro d
    induction d with
    | zero => intro k h1 h2; exact absurd h2 (by omega)
    | succ d ih =>
      intro k h1 h2 h3
      refine jj_s (pc' := 10) rfl rfl ?_
      refine jj_s (pc' := 11) rfl rfl ?_
      refine jj_g rfl rfl (oP _) rfl ?_
      refine jj_g rfl rfl wQ_o rfl ?_
      refine jj_geN 55 rfl rfl (by omega) (by omega) (fun c => ?_) (fun c => ?_)
      · refine jj_s (pc' := 56) rfl rfl ?_
        exact jj_zret rfl rfl (Or.inl rfl) ⟨by rw [show k = N from by omega] at h3; rw [h3]; rfl, rfl, rfl⟩
      · refine jj_s (pc' := 21) rfl rfl ?_
        refine jj_g rfl rfl (oP _) rfl ?_
        refine jj_s (pc' := 25) rfl rfl ?_
        refine jj_v1 rfl rfl rfl wQ_o rfl rfl (c_predecessors hi) ?_
        refine jj_s (pc' := 30) rfl rfl ?_
        refine jj_t2 rfl rfl rfl rfl rfl (c_has (by omega)) ?_
        refine jj_zT 49 rfl rfl (fun c2 => ?_) (fun c2 => ?_)
        · first | refine jj_inc rfl rfl ?_ | refine jj_s (pc' := 52) rfl rfl ?_
          refine jj_s (pc' := 8) rfl rfl ?_
          exact ih (k + 1) (by omega) (by omega) (by simp [anyN, h3, c2])
        · refine jj_s (pc' := 37) rfl rfl ?_
          refine jj_s (pc' := 39) rfl rfl ?_
          refine jj_ald2 rfl (by decide) (by omega) ha ?_
          refine jj_s (pc' := 41) rfl rfl ?_
          refine jj_t2 rfl rfl rfl rfl rfl (c_has (by omega)) ?_
          refine jj_zT 49 rfl rfl (fun c3 => ?_) (fun c3 => ?_)
          · first | refine jj_inc rfl rfl ?_ | refine jj_s (pc' := 52) rfl rfl ?_
            refine jj_s (pc' := 8) rfl rfl ?_
            exact ih (k + 1) (by omega) (by omega) (by simp [anyN, h3, c3])
          · refine jj_s (pc' := 48) rfl rfl ?_
            exact jj_zret rfl rfl (Or.inr rfl) ⟨by rw [(anyN_iff _ _).mpr ⟨k, c, by simp [c2, c3]⟩]; rfl, rfl, rfl⟩
  exact L (N + 1) 0 (by omega) (by omega) rfl
/-- passes until nothing changes -/
def itr {α : Type} (f : α → α × Bool) : Nat → α → α
  | 0, x => x
  | m + 1, x => if (f x).2 = true then itr f m (f x).1 else (f x).1
def hi0 (F P : Nat → Nat → Int32) : Nat → (Nat → Nat → Int32)
  | 0 => P
  | k + 1 => uF (hi0 F P k) 1 k (wkL F k)
def rp (F : Nat → Nat → Int32) (t : Nat) (P : Nat → Nat → Int32) : Nat → (Nat → Nat → Int32) × Bool
  | 0 => (P, false)
  | k + 1 => if bt (prd F t) k = true ∧ (rp F t P k).1 1 k < wkL F k + (rp F t P k).1 1 t then (uF (rp F t P k).1 1 k (wkL F k + (rp F t P k).1 1 t), true) else rp F t P k
theorem rp_0 {F : Nat → Nat → Int32} {t : Nat} (h : prd F t = 0) (P : Nat → Nat → Int32) (k : Nat) : rp F t P k = (P, false) := by
  induction k with
  | zero => rfl
  | succ k ih => rw [rp, h, b_0, if_neg (fun z => by cases z.1), ih]
set_option maxHeartbeats 4000000 in
set_option maxRecDepth 100000 in
 theorem c_raisePredecessors {G : GC} {B n : Nat} {h : HT} {q N : Nat} {S : Nat → Int32} {F : Nat → Nat → Int32} {o : Nat} {P : Nat → Nat → Int32} (hN : N ≤ 20) (ha : o + 4 ≤ q ∨ q + 14 ≤ o) {t : Nat} (ht : t < 20) : CtJ G B M3_raisePredecessors [.ref (B + o), .int (nI t)] n (wQ B q N S F (wA o 3 (pob B o q) P h)) 0 0 (eqP (some (.int (bI (rp F t P N).2))) n (wQ B q N S F (wA o 3 (pob B o q) (rp F t P N).1 h))) := by
  have oP : ∀ P, wQ B q N S F (wA o 3 (pob B o q) P h) o = some (pob B o q) := fun P => wQA_o ha
  unfold CtJ
  refine jj_lv (lv' := [some (.ref (B + o)), some (.int (nI t)), none, none, none, none]) rfl ?_
  refine jj_s (pc' := 1) rfl rfl ?_
  refine jj_g rfl rfl (oP _) rfl ?_
  refine jj_s (pc' := 5) rfl rfl ?_
  refine jj_v1 rfl rfl rfl wQ_o rfl rfl (c_predecessors ht) ?_
  refine jj_s (pc' := 9) rfl rfl ?_
  refine jj_s (pc' := 10) rfl rfl ?_
  refine jj_s (pc' := 11) rfl rfl ?_
  refine jj_s (pc' := 12) rfl rfl ?_
  refine jj_s (pc' := 14) rfl rfl ?_
  have L : ∀ d k z, k ≤ N → N + 1 ≤ k + d → JJ X0 G B M3_raisePredecessors 14 [some (.ref (B + o)), some (.int (nI t)), some (.int (prd F t)), some (.int (bI (rp F t P k).2)), some (.int (nI k)), z] [] n (wQ B q N S F (wA o 3 (pob B o q) (rp F t P k).1 h)) 0 0 (eqP (some (.int (bI (rp F t P N).2))) n (wQ B q N S F (wA o 3 (pob B o q) (rp F t P N).1 h))) := by
    intro d
    induction d with
    | zero => intro k z h1 h2; exact absurd h2 (by omega)
    | succ d ih =>
      intro k z h1 h2
      refine jj_s (pc' := 15) rfl rfl ?_
      refine jj_if_eq 86 rfl rfl (fun c0 => ?_) (fun c0 => ?_)
      · refine jj_s (pc' := 87) rfl rfl ?_
        exact jj_zret rfl rfl (bI_01 _) ⟨by rw [rp_0 c0, rp_0 c0], rfl, by rw [rp_0 c0, rp_0 c0]⟩
      · refine jj_s (pc' := 20) rfl rfl ?_
        refine jj_s (pc' := 21) rfl rfl ?_
        refine jj_g rfl rfl (oP _) rfl ?_
        refine jj_g rfl rfl wQ_o rfl ?_
        refine jj_geN 86 rfl rfl (by omega) (by omega) (fun c => ?_) (fun c => ?_)
        · refine jj_s (pc' := 87) rfl rfl ?_
          exact jj_zret rfl rfl (bI_01 _) ⟨by rw [show k = N by omega], rfl, by rw [show k = N by omega]⟩
        · have skip : ¬ (bt (prd F t) k = true ∧ (rp F t P k).1 1 k < wkL F k + (rp F t P k).1 1 t) → ∀ z, JJ X0 G B M3_raisePredecessors 80 [some (.ref (B + o)), some (.int (nI t)), some (.int (prd F t)), some (.int (bI (rp F t P k).2)), some (.int (nI k)), z] [] n (wQ B q N S F (wA o 3 (pob B o q) (rp F t P k).1 h)) 0 0 (eqP (some (.int (bI (rp F t P N).2))) n (wQ B q N S F (wA o 3 (pob B o q) (rp F t P N).1 h))) := by
            intro hs z
            have e : rp F t P (k + 1) = rp F t P k := by rw [rp, if_neg hs]
            first | refine jj_inc rfl rfl ?_ | refine jj_s (pc' := 83) rfl rfl ?_
            refine jj_s (pc' := 14) rfl rfl ?_
            refine jj_lv ?_ (jj_h ?_ (ih (k + 1) z (by omega) (by omega)))
            · rw [e]; rfl
            · rw [e]
          refine jj_s (pc' := 31) rfl rfl ?_
          refine jj_g rfl rfl (oP _) rfl ?_
          refine jj_s (pc' := 36) rfl rfl ?_
          refine jj_v1 rfl rfl rfl wQ_o rfl rfl (c_workLeft (by omega)) ?_
          refine jj_s (pc' := 40) rfl rfl ?_
          refine jj_g rfl rfl (oP _) rfl ?_
          refine jj_s (pc' := 44) rfl rfl ?_
          refine jj_ald2 rfl (by decide) (by first | assumption | omega) (by first | assumption | omega) ?_
          refine jj_s (pc' := 46) rfl rfl ?_
          refine jj_s (pc' := 48) rfl rfl ?_
          refine jj_s (pc' := 49) rfl rfl ?_
          refine jj_s (pc' := 51) rfl rfl ?_
          refine jj_t2 rfl rfl rfl rfl rfl (c_has (by omega)) ?_
          refine jj_zT 80 rfl rfl (fun c2 => ?_) (fun c2 => ?_)
          · exact skip (fun z => by rw [c2] at z; cases z.1) _
          · refine jj_s (pc' := 59) rfl rfl ?_
            refine jj_s (pc' := 60) rfl rfl ?_
            refine jj_g rfl rfl (oP _) rfl ?_
            refine jj_s (pc' := 65) rfl rfl ?_
            refine jj_ald2 rfl (by decide) (by first | assumption | omega) (by first | assumption | omega) ?_
            refine jj_icmp_le 80 rfl rfl (fun c3 => ?_) (fun c3 => ?_)
            · exact skip (fun z => Int32.not_lt.mpr c3 z.2) _
            · have e : rp F t P (k + 1) = (uF (rp F t P k).1 1 k (wkL F k + (rp F t P k).1 1 t), true) := by rw [rp, if_pos ⟨c2, Int32.not_le.mp c3⟩]
              refine jj_s (pc' := 70) rfl rfl ?_
              refine jj_g rfl rfl (oP _) rfl ?_
              refine jj_s (pc' := 75) rfl rfl ?_
              refine jj_s (pc' := 77) rfl rfl ?_
              refine jj_ast2 rfl (by decide) (by first | assumption | omega) (by first | assumption | omega) ?_
              refine jj_s (pc' := 79) rfl rfl ?_
              refine jj_s (pc' := 80) rfl rfl ?_
              first | refine jj_inc rfl rfl ?_ | refine jj_s (pc' := 83) rfl rfl ?_
              refine jj_s (pc' := 14) rfl rfl ?_
              refine jj_lv ?_ (jj_h ?_ (ih (k + 1) (some (.int (wkL F k + (rp F t P k).1 1 t))) (by omega) (by omega)))
              · rw [e]; rfl
              · rw [e]
  exact L (N + 1) 0 none (by omega) (by omega)
def hpk (F : Nat → Nat → Int32) (N : Nat) (P : Nat → Nat → Int32) : Nat → (Nat → Nat → Int32) × Bool
  | 0 => (P, false)
  | k + 1 => ((rp F k (hpk F N P k).1 N).1, (hpk F N P k).2 || (rp F k (hpk F N P k).1 N).2)
def htS (F : Nat → Nat → Int32) (N : Nat) (P : Nat → Nat → Int32) : Nat → Nat → Int32 := itr (fun P => hpk F N P N) 1000 (hi0 F P N)
set_option maxHeartbeats 4000000 in
set_option maxRecDepth 100000 in
 theorem c_heights {G : GC} {B n : Nat} {h : HT} {q N : Nat} {S : Nat → Int32} {F : Nat → Nat → Int32} {o : Nat} {P : Nat → Nat → Int32} (hN : N ≤ 20) (ha : o + 4 ≤ q ∨ q + 14 ≤ o) : CtJ G B M3_heights [.ref (B + o)] n (wQ B q N S F (wA o 3 (pob B o q) P h)) 0 0 (eqP (some (.ref (B + (o + 2)))) n (wQ B q N S F (wA o 3 (pob B o q) (htS F N P) h))) := by
  have oP : ∀ P, wQ B q N S F (wA o 3 (pob B o q) P h) o = some (pob B o q) := fun P => wQA_o ha
  unfold CtJ
  refine jj_lv (lv' := [some (.ref (B + o)), none, none, none]) rfl ?_
  refine jj_s (pc' := 1) rfl rfl ?_
  refine jj_s (pc' := 2) rfl rfl ?_
  have L1 : ∀ d k, k ≤ N → N + 1 ≤ k + d → JJ X0 G B M3_heights 2 [some (.ref (B + o)), some (.int (nI k)), none, none] [] n (wQ B q N S F (wA o 3 (pob B o q) (hi0 F P k) h)) 0 0 (eqP (some (.ref (B + (o + 2)))) n (wQ B q N S F (wA o 3 (pob B o q) (htS F N P) h))) := by
    intro d
    induction d with
    | zero => intro k h1 h2; exact absurd h2 (by omega)
    | succ d ih =>
      intro k h1 h2
      refine jj_s (pc' := 3) rfl rfl ?_
      refine jj_s (pc' := 4) rfl rfl ?_
      refine jj_g rfl rfl (oP _) rfl ?_
      refine jj_g rfl rfl wQ_o rfl ?_
      refine jj_geN 33 rfl rfl (by omega) (by omega) (fun c => ?_) (fun c => ?_)
      · rw [show k = N by omega]
        refine jj_s (pc' := 34) rfl rfl ?_
        refine jj_s (pc' := 35) rfl rfl ?_
        refine jj_s (pc' := 36) rfl rfl ?_
        refine jj_s (pc' := 37) rfl rfl ?_
        unfold htS
        generalize hi0 F P N = P0
        have L : ∀ m (P : Nat → Nat → Int32) z, m ≤ 1000 → JJ X0 G B M3_heights 37 [some (.ref (B + o)), some (.int 1), some (.int (nI (1000 - m))), z] [] n (wQ B q N S F (wA o 3 (pob B o q) P h)) 0 0 (eqP (some (.ref (B + (o + 2)))) n (wQ B q N S F (wA o 3 (pob B o q) (itr (fun P => hpk F N P N) m P) h))) := by
          intro m
          induction m with
          | zero =>
            intro P z h0
            refine jj_s (pc' := 38) rfl rfl ?_
            refine jj_if_eq 85 rfl rfl (fun c => absurd c (by decide)) (fun c => ?_)
            refine jj_s (pc' := 42) rfl rfl ?_
            refine jj_s (pc' := 45) rfl rfl ?_
            refine jj_icmp_ge 85 rfl rfl (fun c => ?_) (fun c => absurd (by decide) c)
            refine jj_s (pc' := 86) rfl rfl ?_
            refine jj_g rfl rfl (oP _) rfl ?_
            exact jj_aret rfl rfl ⟨rfl, rfl, rfl⟩
          | succ m ihm =>
            intro P z h0
            refine jj_s (pc' := 38) rfl rfl ?_
            refine jj_if_eq 85 rfl rfl (fun c => absurd c (by decide)) (fun c => ?_)
            refine jj_s (pc' := 42) rfl rfl ?_
            refine jj_s (pc' := 45) rfl rfl ?_
            refine jj_icmp_ge 85 rfl rfl (fun c => absurd ((nI_leI (a := 1000) (b := 1000 - (m + 1)) (by omega) (by omega)).mp c) (by omega)) (fun c => ?_)
            refine jj_s (pc' := 49) rfl rfl ?_
            refine jj_s (pc' := 50) rfl rfl ?_
            refine jj_s (pc' := 51) rfl rfl ?_
            refine jj_s (pc' := 52) rfl rfl ?_
            have L2 : ∀ d k, k ≤ N → N + 1 ≤ k + d → JJ X0 G B M3_heights 52 [some (.ref (B + o)), some (.int (bI (hpk F N P k).2)), some (.int (nI (1000 - (m + 1)))), some (.int (nI k))] [] n (wQ B q N S F (wA o 3 (pob B o q) (hpk F N P k).1 h)) 0 0 (eqP (some (.ref (B + (o + 2)))) n (wQ B q N S F (wA o 3 (pob B o q) (itr (fun P => hpk F N P N) (m + 1) P) h))) := by
              intro d
              induction d with
              | zero => intro k h1 h2; exact absurd h2 (by omega)
              | succ d ih =>
                intro k h1 h2
                refine jj_s (pc' := 53) rfl rfl ?_
                refine jj_s (pc' := 54) rfl rfl ?_
                refine jj_g rfl rfl (oP _) rfl ?_
                refine jj_g rfl rfl wQ_o rfl ?_
                refine jj_geN 79 rfl rfl (by omega) (by omega) (fun c => ?_) (fun c => ?_)
                · rw [show k = N by omega]
                  first | refine jj_inc rfl rfl ?_ | refine jj_s (pc' := 82) rfl rfl ?_
                  refine jj_s (pc' := 37) rfl rfl ?_
                  cases hb : (hpk F N P N).2 with
                  | true =>
                    have e : itr (fun P => hpk F N P N) (m + 1) P = itr (fun P => hpk F N P N) m (hpk F N P N).1 := by rw [itr, if_pos hb]
                    rw [e]
                    rw [show 1000 - (m + 1) + 1 = 1000 - m by omega]
                    exact ihm (hpk F N P N).1 _ (by omega)
                  | false =>
                    have e : itr (fun P => hpk F N P N) (m + 1) P = (hpk F N P N).1 := by rw [itr, if_neg (by rw [hb]; decide)]
                    rw [e]
                    refine jj_s (pc' := 38) rfl rfl ?_
                    refine jj_if_eq 85 rfl rfl (fun c => ?_) (fun c => absurd rfl c)
                    refine jj_s (pc' := 86) rfl rfl ?_
                    refine jj_g rfl rfl (oP _) rfl ?_
                    exact jj_aret rfl rfl ⟨rfl, rfl, rfl⟩
                · refine jj_s (pc' := 64) rfl rfl ?_
                  refine jj_s (pc' := 65) rfl rfl ?_
                  refine jj_v1 rfl rfl rfl (oP _) rfl rfl (c_raisePredecessors hN ha (by omega)) ?_
                  refine jj_zT 73 rfl rfl (fun c3 => ?_) (fun c3 => ?_)
                  · first | refine jj_inc rfl rfl ?_ | refine jj_s (pc' := 76) rfl rfl ?_
                    refine jj_s (pc' := 52) rfl rfl ?_
                    refine jj_lv ?_ (ih (k + 1) (by omega) (by omega))
                    simp [hpk, c3]
                  · refine jj_s (pc' := 72) rfl rfl ?_
                    refine jj_s (pc' := 73) rfl rfl ?_
                    first | refine jj_inc rfl rfl ?_ | refine jj_s (pc' := 76) rfl rfl ?_
                    refine jj_s (pc' := 52) rfl rfl ?_
                    refine jj_lv ?_ (ih (k + 1) (by omega) (by omega))
                    simp [hpk, c3, bI]
            exact L2 (N + 1) 0 (by omega) (by omega)
        exact L 1000 P0 none (by omega)
      · refine jj_s (pc' := 14) rfl rfl ?_
        refine jj_g rfl rfl (oP _) rfl ?_
        refine jj_s (pc' := 18) rfl rfl ?_
        refine jj_s (pc' := 19) rfl rfl ?_
        refine jj_g rfl rfl (oP _) rfl ?_
        refine jj_s (pc' := 23) rfl rfl ?_
        refine jj_v1 rfl rfl rfl wQ_o rfl rfl (c_workLeft (by omega)) ?_
        refine jj_ast2 rfl (by decide) (by omega) ha ?_
        first | refine jj_inc rfl rfl ?_ | refine jj_s (pc' := 30) rfl rfl ?_
        refine jj_s (pc' := 2) rfl rfl ?_
        exact ih (k + 1) (by omega) (by omega)
  exact L1 (N + 1) 0 (by omega) (by omega)
def ld0 (P : Nat → Nat → Int32) : Nat → (Nat → Nat → Int32)
  | 0 => P
  | k + 1 => uF (ld0 P k) 2 k 0
def rl (F : Nat → Nat → Int32) (t : Nat) (P : Nat → Nat → Int32) : Nat → (Nat → Nat → Int32) × Bool
  | 0 => (P, false)
  | k + 1 => if bt (prd F t) k = true ∧ (rl F t P k).1 2 t < (rl F t P k).1 2 k + wkL F k then (uF (rl F t P k).1 2 t ((rl F t P k).1 2 k + wkL F k), true) else rl F t P k
theorem rl_0 {F : Nat → Nat → Int32} {t : Nat} (h : prd F t = 0) (P : Nat → Nat → Int32) (k : Nat) : rl F t P k = (P, false) := by
  induction k with
  | zero => rfl
  | succ k ih => rw [rl, h, b_0, if_neg (fun z => by cases z.1), ih]
set_option maxHeartbeats 4000000 in
set_option maxRecDepth 100000 in
 theorem c_raiseLead {G : GC} {B n : Nat} {h : HT} {q N : Nat} {S : Nat → Int32} {F : Nat → Nat → Int32} {o : Nat} {P : Nat → Nat → Int32} (hN : N ≤ 20) (ha : o + 4 ≤ q ∨ q + 14 ≤ o) {t : Nat} (ht : t < 20) : CtJ G B M3_raiseLead [.ref (B + o), .int (nI t)] n (wQ B q N S F (wA o 3 (pob B o q) P h)) 0 0 (eqP (some (.int (bI (rl F t P N).2))) n (wQ B q N S F (wA o 3 (pob B o q) (rl F t P N).1 h))) := by
  have oP : ∀ P, wQ B q N S F (wA o 3 (pob B o q) P h) o = some (pob B o q) := fun P => wQA_o ha
  unfold CtJ
  refine jj_lv (lv' := [some (.ref (B + o)), some (.int (nI t)), none, none, none, none]) rfl ?_
  refine jj_s (pc' := 1) rfl rfl ?_
  refine jj_g rfl rfl (oP _) rfl ?_
  refine jj_s (pc' := 5) rfl rfl ?_
  refine jj_v1 rfl rfl rfl wQ_o rfl rfl (c_predecessors ht) ?_
  refine jj_s (pc' := 9) rfl rfl ?_
  refine jj_s (pc' := 10) rfl rfl ?_
  refine jj_s (pc' := 11) rfl rfl ?_
  refine jj_s (pc' := 12) rfl rfl ?_
  refine jj_s (pc' := 14) rfl rfl ?_
  have L : ∀ d k z, k ≤ N → N + 1 ≤ k + d → JJ X0 G B M3_raiseLead 14 [some (.ref (B + o)), some (.int (nI t)), some (.int (prd F t)), some (.int (bI (rl F t P k).2)), some (.int (nI k)), z] [] n (wQ B q N S F (wA o 3 (pob B o q) (rl F t P k).1 h)) 0 0 (eqP (some (.int (bI (rl F t P N).2))) n (wQ B q N S F (wA o 3 (pob B o q) (rl F t P N).1 h))) := by
    intro d
    induction d with
    | zero => intro k z h1 h2; exact absurd h2 (by omega)
    | succ d ih =>
      intro k z h1 h2
      refine jj_s (pc' := 15) rfl rfl ?_
      refine jj_if_eq 85 rfl rfl (fun c0 => ?_) (fun c0 => ?_)
      · refine jj_s (pc' := 86) rfl rfl ?_
        exact jj_zret rfl rfl (bI_01 _) ⟨by rw [rl_0 c0, rl_0 c0], rfl, by rw [rl_0 c0, rl_0 c0]⟩
      · refine jj_s (pc' := 20) rfl rfl ?_
        refine jj_s (pc' := 21) rfl rfl ?_
        refine jj_g rfl rfl (oP _) rfl ?_
        refine jj_g rfl rfl wQ_o rfl ?_
        refine jj_geN 85 rfl rfl (by omega) (by omega) (fun c => ?_) (fun c => ?_)
        · refine jj_s (pc' := 86) rfl rfl ?_
          exact jj_zret rfl rfl (bI_01 _) ⟨by rw [show k = N by omega], rfl, by rw [show k = N by omega]⟩
        · have skip : ¬ (bt (prd F t) k = true ∧ (rl F t P k).1 2 t < (rl F t P k).1 2 k + wkL F k) → ∀ z, JJ X0 G B M3_raiseLead 79 [some (.ref (B + o)), some (.int (nI t)), some (.int (prd F t)), some (.int (bI (rl F t P k).2)), some (.int (nI k)), z] [] n (wQ B q N S F (wA o 3 (pob B o q) (rl F t P k).1 h)) 0 0 (eqP (some (.int (bI (rl F t P N).2))) n (wQ B q N S F (wA o 3 (pob B o q) (rl F t P N).1 h))) := by
            intro hs z
            have e : rl F t P (k + 1) = rl F t P k := by rw [rl, if_neg hs]
            first | refine jj_inc rfl rfl ?_ | refine jj_s (pc' := 82) rfl rfl ?_
            refine jj_s (pc' := 14) rfl rfl ?_
            refine jj_lv ?_ (jj_h ?_ (ih (k + 1) z (by omega) (by omega)))
            · rw [e]; rfl
            · rw [e]
          refine jj_s (pc' := 31) rfl rfl ?_
          refine jj_g rfl rfl (oP _) rfl ?_
          refine jj_s (pc' := 36) rfl rfl ?_
          refine jj_ald2 rfl (by decide) (by first | assumption | omega) (by first | assumption | omega) ?_
          refine jj_s (pc' := 38) rfl rfl ?_
          refine jj_g rfl rfl (oP _) rfl ?_
          refine jj_s (pc' := 43) rfl rfl ?_
          refine jj_v1 rfl rfl rfl wQ_o rfl rfl (c_workLeft (by omega)) ?_
          refine jj_s (pc' := 47) rfl rfl ?_
          refine jj_s (pc' := 49) rfl rfl ?_
          refine jj_s (pc' := 50) rfl rfl ?_
          refine jj_s (pc' := 52) rfl rfl ?_
          refine jj_t2 rfl rfl rfl rfl rfl (c_has (by omega)) ?_
          refine jj_zT 79 rfl rfl (fun c2 => ?_) (fun c2 => ?_)
          · exact skip (fun z => by rw [c2] at z; cases z.1) _
          · refine jj_s (pc' := 60) rfl rfl ?_
            refine jj_s (pc' := 61) rfl rfl ?_
            refine jj_g rfl rfl (oP _) rfl ?_
            refine jj_s (pc' := 65) rfl rfl ?_
            refine jj_ald2 rfl (by decide) (by first | assumption | omega) (by first | assumption | omega) ?_
            refine jj_icmp_le 79 rfl rfl (fun c3 => ?_) (fun c3 => ?_)
            · exact skip (fun z => Int32.not_lt.mpr c3 z.2) _
            · have e : rl F t P (k + 1) = (uF (rl F t P k).1 2 t ((rl F t P k).1 2 k + wkL F k), true) := by rw [rl, if_pos ⟨c2, Int32.not_le.mp c3⟩]
              refine jj_s (pc' := 70) rfl rfl ?_
              refine jj_g rfl rfl (oP _) rfl ?_
              refine jj_s (pc' := 74) rfl rfl ?_
              refine jj_s (pc' := 76) rfl rfl ?_
              refine jj_ast2 rfl (by decide) (by first | assumption | omega) (by first | assumption | omega) ?_
              refine jj_s (pc' := 78) rfl rfl ?_
              refine jj_s (pc' := 79) rfl rfl ?_
              first | refine jj_inc rfl rfl ?_ | refine jj_s (pc' := 82) rfl rfl ?_
              refine jj_s (pc' := 14) rfl rfl ?_
              refine jj_lv ?_ (jj_h ?_ (ih (k + 1) (some (.int ((rl F t P k).1 2 k + wkL F k))) (by omega) (by omega)))
              · rw [e]; rfl
              · rw [e]
  exact L (N + 1) 0 none (by omega) (by omega)
def lpk (F : Nat → Nat → Int32) (N : Nat) (P : Nat → Nat → Int32) : Nat → (Nat → Nat → Int32) × Bool
  | 0 => (P, false)
  | k + 1 => ((rl F k (lpk F N P k).1 N).1, (lpk F N P k).2 || (rl F k (lpk F N P k).1 N).2)
def leS (F : Nat → Nat → Int32) (N : Nat) (P : Nat → Nat → Int32) : Nat → Nat → Int32 := itr (fun P => lpk F N P N) 1000 (ld0 P N)
set_option maxHeartbeats 4000000 in
set_option maxRecDepth 100000 in
 theorem c_leads {G : GC} {B n : Nat} {h : HT} {q N : Nat} {S : Nat → Int32} {F : Nat → Nat → Int32} {o : Nat} {P : Nat → Nat → Int32} (hN : N ≤ 20) (ha : o + 4 ≤ q ∨ q + 14 ≤ o) : CtJ G B M3_leads [.ref (B + o)] n (wQ B q N S F (wA o 3 (pob B o q) P h)) 0 0 (eqP (some (.ref (B + (o + 3)))) n (wQ B q N S F (wA o 3 (pob B o q) (leS F N P) h))) := by
  have oP : ∀ P, wQ B q N S F (wA o 3 (pob B o q) P h) o = some (pob B o q) := fun P => wQA_o ha
  unfold CtJ
  refine jj_lv (lv' := [some (.ref (B + o)), none, none, none]) rfl ?_
  refine jj_s (pc' := 1) rfl rfl ?_
  refine jj_s (pc' := 2) rfl rfl ?_
  have L1 : ∀ d k, k ≤ N → N + 1 ≤ k + d → JJ X0 G B M3_leads 2 [some (.ref (B + o)), some (.int (nI k)), none, none] [] n (wQ B q N S F (wA o 3 (pob B o q) (ld0 P k) h)) 0 0 (eqP (some (.ref (B + (o + 3)))) n (wQ B q N S F (wA o 3 (pob B o q) (leS F N P) h))) := by
    intro d
    induction d with
    | zero => intro k h1 h2; exact absurd h2 (by omega)
    | succ d ih =>
      intro k h1 h2
      refine jj_s (pc' := 3) rfl rfl ?_
      refine jj_s (pc' := 4) rfl rfl ?_
      refine jj_g rfl rfl (oP _) rfl ?_
      refine jj_g rfl rfl wQ_o rfl ?_
      refine jj_geN 26 rfl rfl (by omega) (by omega) (fun c => ?_) (fun c => ?_)
      · rw [show k = N by omega]
        refine jj_s (pc' := 27) rfl rfl ?_
        refine jj_s (pc' := 28) rfl rfl ?_
        refine jj_s (pc' := 29) rfl rfl ?_
        refine jj_s (pc' := 30) rfl rfl ?_
        unfold leS
        generalize ld0 P N = P0
        have L : ∀ m (P : Nat → Nat → Int32) z, m ≤ 1000 → JJ X0 G B M3_leads 30 [some (.ref (B + o)), some (.int 1), some (.int (nI (1000 - m))), z] [] n (wQ B q N S F (wA o 3 (pob B o q) P h)) 0 0 (eqP (some (.ref (B + (o + 3)))) n (wQ B q N S F (wA o 3 (pob B o q) (itr (fun P => lpk F N P N) m P) h))) := by
          intro m
          induction m with
          | zero =>
            intro P z h0
            refine jj_s (pc' := 31) rfl rfl ?_
            refine jj_if_eq 78 rfl rfl (fun c => absurd c (by decide)) (fun c => ?_)
            refine jj_s (pc' := 35) rfl rfl ?_
            refine jj_s (pc' := 38) rfl rfl ?_
            refine jj_icmp_ge 78 rfl rfl (fun c => ?_) (fun c => absurd (by decide) c)
            refine jj_s (pc' := 79) rfl rfl ?_
            refine jj_g rfl rfl (oP _) rfl ?_
            exact jj_aret rfl rfl ⟨rfl, rfl, rfl⟩
          | succ m ihm =>
            intro P z h0
            refine jj_s (pc' := 31) rfl rfl ?_
            refine jj_if_eq 78 rfl rfl (fun c => absurd c (by decide)) (fun c => ?_)
            refine jj_s (pc' := 35) rfl rfl ?_
            refine jj_s (pc' := 38) rfl rfl ?_
            refine jj_icmp_ge 78 rfl rfl (fun c => absurd ((nI_leI (a := 1000) (b := 1000 - (m + 1)) (by omega) (by omega)).mp c) (by omega)) (fun c => ?_)
            refine jj_s (pc' := 42) rfl rfl ?_
            refine jj_s (pc' := 43) rfl rfl ?_
            refine jj_s (pc' := 44) rfl rfl ?_
            refine jj_s (pc' := 45) rfl rfl ?_
            have L2 : ∀ d k, k ≤ N → N + 1 ≤ k + d → JJ X0 G B M3_leads 45 [some (.ref (B + o)), some (.int (bI (lpk F N P k).2)), some (.int (nI (1000 - (m + 1)))), some (.int (nI k))] [] n (wQ B q N S F (wA o 3 (pob B o q) (lpk F N P k).1 h)) 0 0 (eqP (some (.ref (B + (o + 3)))) n (wQ B q N S F (wA o 3 (pob B o q) (itr (fun P => lpk F N P N) (m + 1) P) h))) := by
              intro d
              induction d with
              | zero => intro k h1 h2; exact absurd h2 (by omega)
              | succ d ih =>
                intro k h1 h2
                refine jj_s (pc' := 46) rfl rfl ?_
                refine jj_s (pc' := 47) rfl rfl ?_
                refine jj_g rfl rfl (oP _) rfl ?_
                refine jj_g rfl rfl wQ_o rfl ?_
                refine jj_geN 72 rfl rfl (by omega) (by omega) (fun c => ?_) (fun c => ?_)
                · rw [show k = N by omega]
                  first | refine jj_inc rfl rfl ?_ | refine jj_s (pc' := 75) rfl rfl ?_
                  refine jj_s (pc' := 30) rfl rfl ?_
                  cases hb : (lpk F N P N).2 with
                  | true =>
                    have e : itr (fun P => lpk F N P N) (m + 1) P = itr (fun P => lpk F N P N) m (lpk F N P N).1 := by rw [itr, if_pos hb]
                    rw [e]
                    rw [show 1000 - (m + 1) + 1 = 1000 - m by omega]
                    exact ihm (lpk F N P N).1 _ (by omega)
                  | false =>
                    have e : itr (fun P => lpk F N P N) (m + 1) P = (lpk F N P N).1 := by rw [itr, if_neg (by rw [hb]; decide)]
                    rw [e]
                    refine jj_s (pc' := 31) rfl rfl ?_
                    refine jj_if_eq 78 rfl rfl (fun c => ?_) (fun c => absurd rfl c)
                    refine jj_s (pc' := 79) rfl rfl ?_
                    refine jj_g rfl rfl (oP _) rfl ?_
                    exact jj_aret rfl rfl ⟨rfl, rfl, rfl⟩
                · refine jj_s (pc' := 57) rfl rfl ?_
                  refine jj_s (pc' := 58) rfl rfl ?_
                  refine jj_v1 rfl rfl rfl (oP _) rfl rfl (c_raiseLead hN ha (by omega)) ?_
                  refine jj_zT 66 rfl rfl (fun c3 => ?_) (fun c3 => ?_)
                  · first | refine jj_inc rfl rfl ?_ | refine jj_s (pc' := 69) rfl rfl ?_
                    refine jj_s (pc' := 45) rfl rfl ?_
                    refine jj_lv ?_ (ih (k + 1) (by omega) (by omega))
                    simp [lpk, c3]
                  · refine jj_s (pc' := 65) rfl rfl ?_
                    refine jj_s (pc' := 66) rfl rfl ?_
                    first | refine jj_inc rfl rfl ?_ | refine jj_s (pc' := 69) rfl rfl ?_
                    refine jj_s (pc' := 45) rfl rfl ?_
                    refine jj_lv ?_ (ih (k + 1) (by omega) (by omega))
                    simp [lpk, c3, bI]
            exact L2 (N + 1) 0 (by omega) (by omega)
        exact L 1000 P0 none (by omega)
      · refine jj_s (pc' := 14) rfl rfl ?_
        refine jj_g rfl rfl (oP _) rfl ?_
        refine jj_s (pc' := 18) rfl rfl ?_
        refine jj_s (pc' := 19) rfl rfl ?_
        refine jj_ast2 rfl (by decide) (by first | assumption | omega) (by first | assumption | omega) ?_
        first | refine jj_inc rfl rfl ?_ | refine jj_s (pc' := 23) rfl rfl ?_
        refine jj_s (pc' := 2) rfl rfl ?_
        exact ih (k + 1) (by omega) (by omega)
  exact L1 (N + 1) 0 (by omega) (by omega)
