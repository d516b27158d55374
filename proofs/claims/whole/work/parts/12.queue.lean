/-! the same rows, but not at the places zs (heads of loops) -/
def stn (ins : Instr) (pc : Nat) (lv : List (Option Value)) (st : List Value) : Option (Nat × List (Option Value) × List Value) := match ins with
  | .iinc .. => none
  | i => stp i pc lv st
theorem stn_stp {ins : Instr} {pc : Nat} {lv : List (Option Value)} {st : List Value} {r : Nat × List (Option Value) × List Value} (h : stn ins pc lv st = some r) : stp ins pc lv st = some r := by
  unfold stn at h
  split at h
  next => cases h
  next => exact h
theorem jj_sx {X : State → Prop} {G : GC} {B : Nat} {y : MT} {pc : Nat} {lv : List (Option Value)} {st : List Value} {n : Nat} {h : HT} {kc ks : Nat} {post : Option Value → Nat → HT → Prop} {ins : Instr} {pc' : Nat} {lv' : List (Option Value)} {st' : List Value} (zs : List Nat) (hz : zs.elem pc = false) (hd : lk (M_tb y) pc = some ins) (hs : stn ins pc lv st = some (pc', lv', st')) (k : JJ X G B y pc' lv' st' n h kc ks post) : JJ X G B y pc lv st n h kc ks post := jj_s hd (stn_stp hs) k
theorem jj_gx {X : State → Prop} {G : GC} {B : Nat} {y : MT} {pc : Nat} {lv : List (Option Value)} {st : List Value} {n : Nat} {h : HT} {kc ks : Nat} {post : Option Value → Nat → HT → Prop} {idx ci k a : Nat} {fs : List Value} {v : Value} (zs : List Nat) (hz : zs.elem pc = false) (hd : lk (M_tb y) pc = some (.getfield idx)) (hf : fld (M_own y) idx = some (ci, k)) (hc : h a = some (ob ci fs)) (hv : fs[k]? = some v) (K : JJ X G B y (pc + 3) lv (v :: st) n h kc ks post) : JJ X G B y pc lv (.ref (B + a) :: st) n h kc ks post := jj_g hd hf hc hv K
theorem jj_incx {X : State → Prop} {G : GC} {B : Nat} {y : MT} {pc : Nat} {lv : List (Option Value)} {st : List Value} {n : Nat} {h : HT} {kc ks : Nat} {post : Option Value → Nat → HT → Prop} {i k : Nat} (zs : List Nat) (hz : zs.elem pc = false) (hd : lk (M_tb y) pc = some (.iinc i 1)) (hl : lv[i]? = some (some (.int (nI k)))) (K : JJ X G B y (pc + 3) (lv.set i (some (.int (nI (k + 1))))) st n h kc ks post) : JJ X G B y pc lv st n h kc ks post := jj_inc hd hl K
/-! the Queue: its cells, and its small methods -/
def qobj (B q N : Nat) (S : Nat → Int32) : List Value := [.int (nI N), .int (S 1), .int (S 2), .int (S 3), .int (S 4), .ref (B + (q + 1)), .ref (B + (q + 2)), .ref (B + (q + 3)), .ref (B + (q + 4)), .ref (B + (q + 5)), .ref (B + (q + 6)), .ref (B + (q + 7)), .ref (B + (q + 8)), .ref (B + (q + 9)), .ref (B + (q + 10)), .ref (B + (q + 11)), .ref (B + (q + 12)), .ref (B + (q + 13))]
def wQ (B q N : Nat) (S : Nat → Int32) (F : Nat → Nat → Int32) (h : HT) : HT := fun k => if k = q then some (ob 5 (qobj B q N S)) else if q < k ∧ k < q + 14 then some (ia 20 (F (k - (q + 1)))) else h k
theorem wQ_o {B q N : Nat} {S : Nat → Int32} {F : Nat → Nat → Int32} {h : HT} : wQ B q N S F h q = some (ob 5 (qobj B q N S)) := if_pos rfl
theorem wQ_a {B q N : Nat} {S : Nat → Int32} {F : Nat → Nat → Int32} {h : HT} {j : Nat} (hj : j < 13) : wQ B q N S F h (q + (j + 1)) = some (ia 20 (F j)) := by
  unfold wQ
  rw [if_neg (by omega), if_pos (by omega), show q + (j + 1) - (q + 1) = j by omega]
theorem wQ_n {B q N : Nat} {S : Nat → Int32} {F : Nat → Nat → Int32} {h : HT} {k : Nat} (hk : k < q ∨ q + 14 ≤ k) : wQ B q N S F h k = h k := by
  unfold wQ
  rw [if_neg (by omega), if_neg (by omega)]
/-- one row of cells anew -/
def upF (F : Nat → Nat → Int32) (j : Nat) (f : Nat → Int32) : Nat → Nat → Int32 := fun a => if a = j then f else F a
/-- one place anew -/
def uF (F : Nat → Nat → Int32) (j i : Nat) (x : Int32) : Nat → Nat → Int32 := upF F j (upd (F j) i x)
theorem uF_s (F : Nat → Nat → Int32) (j i : Nat) (x : Int32) : uF F j i x j i = x := by simp [uF, upF, upd]
theorem uF_j (F : Nat → Nat → Int32) (j i : Nat) (x : Int32) {a : Nat} (ha : a ≠ j) : uF F j i x a = F a := by simp [uF, upF, ha]
theorem uF_i (F : Nat → Nat → Int32) (j i : Nat) (x : Int32) {k : Nat} (hk : k ≠ i) (a : Nat) : uF F j i x a k = F a k := by
  unfold uF upF
  split
  next e => subst e; simp [upd, hk]
  next => rfl
theorem uF_at (F : Nat → Nat → Int32) (j i : Nat) (x : Int32) (a k : Nat) : uF F j i x a k = if a = j ∧ k = i then x else F a k := by
  by_cases h1 : a = j
  · subst h1
    by_cases h2 : k = i
    · subst h2; simp [uF_s]
    · rw [uF_i _ _ _ _ h2]; simp [h2]
  · rw [uF_j _ _ _ _ h1]; simp [h1]
theorem wQ_put {B q N : Nat} {S : Nat → Int32} {F : Nat → Nat → Int32} {h : HT} {j i : Nat} {x : Int32} (hj : j < 13) : hu (wQ B q N S F h) (q + (j + 1)) (ia 20 (upd (F j) i x)) = wQ B q N S (uF F j i x) h := by
  funext k
  by_cases hk : k = q + (j + 1)
  · subst hk
    rw [hu_s, wQ_a hj]
    simp [uF, upF]
  · rw [hu_n _ _ _ hk]
    unfold wQ
    split
    next => rfl
    next h1 =>
      split
      next h2 => rw [uF_j _ _ _ _ (by omega)]
      next => rfl
theorem wQ_scal {B q N : Nat} {S : Nat → Int32} {F : Nat → Nat → Int32} {h : HT} {fs : List Value} {N' : Nat} {S' : Nat → Int32} (he : fs = qobj B q N' S') : hu (wQ B q N S F h) q (ob 5 fs) = wQ B q N' S' F h := by
  subst he
  funext k
  by_cases hk : k = q
  · subst hk
    rw [hu_s, wQ_o]
  · rw [hu_n _ _ _ hk]
    unfold wQ
    rw [if_neg hk, if_neg hk]
theorem wQ_id {B q N : Nat} {S : Nat → Int32} {F : Nat → Nat → Int32} {h : HT} (h0 : h q = some (ob 5 (qobj B q N S))) (ha : ∀ j, j < 13 → h (q + (j + 1)) = some (ia 20 (F j))) : wQ B q N S F h = h := by
  funext k
  by_cases hk : k = q
  · subst hk
    rw [wQ_o, h0]
  · by_cases h1 : q < k ∧ k < q + 14
    · have := ha (k - (q + 1)) (by omega)
      rw [show q + (k - (q + 1) + 1) = k by omega] at this
      unfold wQ
      rw [if_neg hk, if_pos h1, this]
    · exact wQ_n (by omega)
theorem wQ_wQ {B q N N' : Nat} {S S' : Nat → Int32} {F F' : Nat → Nat → Int32} {h : HT} : wQ B q N S F (wQ B q N' S' F' h) = wQ B q N S F h := by
  funext k
  unfold wQ
  split
  next => rfl
  next => split <;> rfl
/-! rows for numbers -/
theorem jj_geN {X : State → Prop} {G : GC} {B : Nat} {y : MT} {pc : Nat} {lv : List (Option Value)} {st : List Value} {n : Nat} {h : HT} {kc ks : Nat} {post : Option Value → Nat → HT → Prop} {a b : Nat} {off : Int} (tgt : Nat) (hd : lk (M_tb y) pc = some (.if_icmp .ge off)) (ht : (pc : Int) + off = (tgt : Int)) (ha : a < 2147483648) (hb : b < 2147483648)
    (kt : b ≤ a → JJ X G B y tgt lv st n h kc ks post) (kf : a < b → JJ X G B y (pc + 3) lv st n h kc ks post) : JJ X G B y pc lv (.int (nI b) :: .int (nI a) :: st) n h kc ks post :=
  jj_icmp_ge tgt hd ht (fun c => kt ((nI_leI hb ha).mp c)) (fun c => kf (by
    rcases Nat.lt_or_ge a b with q | q
    · exact q
    · exact absurd ((nI_leI hb ha).mpr q) c))
/-- behind a method that answers a truth -/
theorem jj_zT {X : State → Prop} {G : GC} {B : Nat} {y : MT} {pc : Nat} {lv : List (Option Value)} {st : List Value} {n : Nat} {h : HT} {kc ks : Nat} {post : Option Value → Nat → HT → Prop} {b : Bool} {off : Int} (tgt : Nat) (hd : lk (M_tb y) pc = some (.ifCond .eq off)) (ht : (pc : Int) + off = (tgt : Int))
    (kf : b = false → JJ X G B y tgt lv st n h kc ks post) (kt : b = true → JJ X G B y (pc + 3) lv st n h kc ks post) : JJ X G B y pc lv (.int (bI b) :: st) n h kc ks post :=
  jj_if_eq tgt hd ht (fun c => kf (bI_0.mp c)) (fun c => kt (by cases b; exact absurd rfl c; rfl))
theorem jj_zF {X : State → Prop} {G : GC} {B : Nat} {y : MT} {pc : Nat} {lv : List (Option Value)} {st : List Value} {n : Nat} {h : HT} {kc ks : Nat} {post : Option Value → Nat → HT → Prop} {b : Bool} {off : Int} (tgt : Nat) (hd : lk (M_tb y) pc = some (.ifCond .ne off)) (ht : (pc : Int) + off = (tgt : Int))
    (kt : b = true → JJ X G B y tgt lv st n h kc ks post) (kf : b = false → JJ X G B y (pc + 3) lv st n h kc ks post) : JJ X G B y pc lv (.int (bI b) :: st) n h kc ks post :=
  jj_if_ne tgt hd ht (fun c => kt (by cases b; exact absurd rfl c; rfl)) (fun c => kf (bI_0.mp c))
/-! the Queue's small methods -/
set_option maxHeartbeats 4000000 in
set_option maxRecDepth 100000 in
 theorem c_holds {G : GC} {B n : Nat} {h : HT} {q N : Nat} {S : Nat → Int32} {F : Nat → Nat → Int32} (x : Int32) : CtJ G B M5_holds [.ref (B + q), .int x] n (wQ B q N S F h) 0 0 (eqP (some (.int (bI (decide (0 ≤ x ∧ x < nI N))))) n (wQ B q N S F h)) := by
  unfold CtJ
  repeat (first | refine jj_s rfl rfl ?_)
  refine jj_if_lt 16 rfl rfl (fun c1 => ?_) (fun c1 => ?_)
  · repeat (first | refine jj_s rfl rfl ?_)
    exact jj_zret rfl rfl (Or.inl rfl) ⟨by simp [bI, Int32.not_le.mpr c1], rfl, rfl⟩
  · repeat (first | refine jj_s rfl rfl ?_ | refine jj_g rfl rfl wQ_o rfl ?_)
    refine jj_icmp_ge 16 rfl rfl (fun c2 => ?_) (fun c2 => ?_)
    · repeat (first | refine jj_s rfl rfl ?_)
      exact jj_zret rfl rfl (Or.inl rfl) ⟨by simp [bI, Int32.not_lt.mpr c2], rfl, rfl⟩
    · repeat (first | refine jj_s rfl rfl ?_)
      exact jj_zret rfl rfl (Or.inr rfl) ⟨by simp [bI, Int32.not_lt.mp c1, Int32.not_le.mp c2], rfl, rfl⟩
set_option maxHeartbeats 4000000 in
set_option maxRecDepth 100000 in
 theorem c_isFull {G : GC} {B n : Nat} {h : HT} {q N : Nat} {S : Nat → Int32} {F : Nat → Nat → Int32} : CtJ G B M5_isFull [.ref (B + q)] n (wQ B q N S F h) 0 0 (eqP (some (.int (bI (decide (20 ≤ nI N))))) n (wQ B q N S F h)) := by
  unfold CtJ
  repeat (first | refine jj_s rfl rfl ?_ | refine jj_g rfl rfl wQ_o rfl ?_)
  refine jj_icmp_lt 13 rfl rfl (fun (c1 : nI N < 20) => ?_) (fun (c1 : ¬ nI N < 20) => ?_)
  · repeat (first | refine jj_s rfl rfl ?_)
    exact jj_zret rfl rfl (Or.inl rfl) ⟨by simp [bI, Int32.not_le.mpr c1], rfl, rfl⟩
  · repeat (first | refine jj_s rfl rfl ?_)
    exact jj_zret rfl rfl (Or.inr rfl) ⟨by simp [bI, Int32.not_lt.mp c1], rfl, rfl⟩
set_option maxHeartbeats 4000000 in
set_option maxRecDepth 100000 in
 theorem c_hasEnded {G : GC} {B n : Nat} {h : HT} {q N : Nat} {S : Nat → Int32} {F : Nat → Nat → Int32} {i : Nat} (hi : i < 20) : CtJ G B M5_hasEnded [.ref (B + q), .int (nI i)] n (wQ B q N S F h) 0 0 (eqP (some (.int (bI (decide (3 ≤ F 5 i))))) n (wQ B q N S F h)) := by
  unfold CtJ
  repeat (first | refine jj_s rfl rfl ?_ | refine jj_g rfl rfl wQ_o rfl ?_)
  refine jj_ialdN rfl (wQ_a (by decide)) hi rfl ?_
  repeat (first | refine jj_s rfl rfl ?_)
  refine jj_icmp_lt 14 rfl rfl (fun (c1 : F 5 i < 3) => ?_) (fun (c1 : ¬ F 5 i < 3) => ?_)
  · repeat (first | refine jj_s rfl rfl ?_)
    exact jj_zret rfl rfl (Or.inl rfl) ⟨by simp [bI, Int32.not_le.mpr c1], rfl, rfl⟩
  · repeat (first | refine jj_s rfl rfl ?_)
    exact jj_zret rfl rfl (Or.inr rfl) ⟨by simp [bI, Int32.not_lt.mp c1], rfl, rfl⟩
set_option maxHeartbeats 4000000 in
set_option maxRecDepth 100000 in
 theorem c_hasFailed {G : GC} {B n : Nat} {h : HT} {q N : Nat} {S : Nat → Int32} {F : Nat → Nat → Int32} {i : Nat} (hi : i < 20) : CtJ G B M5_hasFailed [.ref (B + q), .int (nI i)] n (wQ B q N S F h) 0 0 (eqP (some (.int (bI (decide (3 < F 5 i))))) n (wQ B q N S F h)) := by
  unfold CtJ
  repeat (first | refine jj_s rfl rfl ?_ | refine jj_g rfl rfl wQ_o rfl ?_)
  refine jj_ialdN rfl (wQ_a (by decide)) hi rfl ?_
  repeat (first | refine jj_s rfl rfl ?_)
  refine jj_icmp_le 14 rfl rfl (fun (c1 : F 5 i ≤ 3) => ?_) (fun (c1 : ¬ F 5 i ≤ 3) => ?_)
  · repeat (first | refine jj_s rfl rfl ?_)
    exact jj_zret rfl rfl (Or.inl rfl) ⟨by simp [bI, Int32.not_lt.mpr c1], rfl, rfl⟩
  · repeat (first | refine jj_s rfl rfl ?_)
    exact jj_zret rfl rfl (Or.inr rfl) ⟨by simp [bI, Int32.not_le.mp c1], rfl, rfl⟩
set_option maxHeartbeats 4000000 in
set_option maxRecDepth 100000 in
 theorem c_followsEdges {G : GC} {B n : Nat} {h : HT} {q N : Nat} {S : Nat → Int32} {F : Nat → Nat → Int32} {i : Nat} (hi : i < 20) : CtJ G B M5_followsEdges [.ref (B + q), .int (nI i)] n (wQ B q N S F h) 0 0 (eqP (some (.int (bI (decide (F 5 i = 0 ∨ F 5 i = 1))))) n (wQ B q N S F h)) := by
  unfold CtJ
  repeat (first | refine jj_s rfl rfl ?_ | refine jj_g rfl rfl wQ_o rfl ?_)
  refine jj_ialdN rfl (wQ_a (by decide)) hi rfl ?_
  refine jj_if_eq 19 rfl rfl (fun c1 => ?_) (fun c1 => ?_)
  · repeat (first | refine jj_s rfl rfl ?_)
    exact jj_zret rfl rfl (Or.inr rfl) ⟨by simp [bI, c1], rfl, rfl⟩
  · repeat (first | refine jj_s rfl rfl ?_ | refine jj_g rfl rfl wQ_o rfl ?_)
    refine jj_ialdN rfl (wQ_a (by decide)) hi rfl ?_
    repeat (first | refine jj_s rfl rfl ?_)
    refine jj_icmp_ne 23 rfl rfl (fun (c2 : ¬ F 5 i = 1) => ?_) (fun (c2 : F 5 i = 1) => ?_)
    · repeat (first | refine jj_s rfl rfl ?_)
      exact jj_zret rfl rfl (Or.inl rfl) ⟨by simp [bI, c1, c2], rfl, rfl⟩
    · repeat (first | refine jj_s rfl rfl ?_)
      exact jj_zret rfl rfl (Or.inr rfl) ⟨by simp [bI, c2], rfl, rfl⟩
set_option maxHeartbeats 4000000 in
set_option maxRecDepth 100000 in
 theorem c_isValid {G : GC} {B n : Nat} {h : HT} {q N : Nat} {S : Nat → Int32} {F : Nat → Nat → Int32} {i : Nat} (hi : i < 20) (r : Int32) : CtJ G B M5_isValid [.ref (B + q), .int (nI i), .int r] n (wQ B q N S F h) 0 0 (eqP (some (.int (bI (decide (F 5 i = 2 ∧ F 10 i = r))))) n (wQ B q N S F h)) := by
  unfold CtJ
  repeat (first | refine jj_s rfl rfl ?_ | refine jj_g rfl rfl wQ_o rfl ?_)
  refine jj_ialdN rfl (wQ_a (by decide)) hi rfl ?_
  repeat (first | refine jj_s rfl rfl ?_)
  refine jj_icmp_ne 24 rfl rfl (fun (c1 : ¬ F 5 i = 2) => ?_) (fun (c1 : F 5 i = 2) => ?_)
  · repeat (first | refine jj_s rfl rfl ?_)
    exact jj_zret rfl rfl (Or.inl rfl) ⟨by simp [bI, c1], rfl, rfl⟩
  · repeat (first | refine jj_s rfl rfl ?_ | refine jj_g rfl rfl wQ_o rfl ?_)
    refine jj_ialdN rfl (wQ_a (by decide)) hi rfl ?_
    repeat (first | refine jj_s rfl rfl ?_)
    refine jj_icmp_ne 24 rfl rfl (fun c2 => ?_) (fun c2 => ?_)
    · repeat (first | refine jj_s rfl rfl ?_)
      exact jj_zret rfl rfl (Or.inl rfl) ⟨by simp [bI, c2], rfl, rfl⟩
    · repeat (first | refine jj_s rfl rfl ?_)
      exact jj_zret rfl rfl (Or.inr rfl) ⟨by simp [bI, c1, c2], rfl, rfl⟩
/-- what is left of an item's work -/
def wkL (F : Nat → Nat → Int32) (i : Nat) : Int32 := if 3 ≤ F 5 i then 0 else F 1 i
set_option maxHeartbeats 4000000 in
set_option maxRecDepth 100000 in
 theorem c_workLeft {G : GC} {B n : Nat} {h : HT} {q N : Nat} {S : Nat → Int32} {F : Nat → Nat → Int32} {i : Nat} (hi : i < 20) : CtJ G B M5_workLeft [.ref (B + q), .int (nI i)] n (wQ B q N S F h) 0 0 (eqP (some (.int (wkL F i))) n (wQ B q N S F h)) := by
  unfold CtJ
  repeat (first | refine jj_s rfl rfl ?_)
  refine jj_v1 rfl rfl rfl wQ_o rfl rfl (c_hasEnded hi) ?_
  refine jj_zT 12 rfl rfl (fun c1 => ?_) (fun c1 => ?_)
  · repeat (first | refine jj_s rfl rfl ?_ | refine jj_g rfl rfl wQ_o rfl ?_)
    refine jj_ialdN rfl (wQ_a (by decide)) hi rfl ?_
    exact jj_iret rfl rfl ⟨by simp at c1; simp [wkL, Int32.not_le.mpr c1], rfl, rfl⟩
  · repeat (first | refine jj_s rfl rfl ?_)
    exact jj_iret rfl rfl ⟨by simp at c1; simp [wkL, c1], rfl, rfl⟩
/-- the set of those below k that are such -/
def msk (P : Nat → Bool) : Nat → Int32
  | 0 => 0
  | k + 1 => if P k = true then msk P k ||| bit k else msk P k
theorem bt_msk (P : Nat → Bool) {k : Nat} (hk : k ≤ 32) (i : Nat) : bt (msk P k) i = (decide (i < k) && P i) := by
  induction k with
  | zero => simp [msk, b_0]
  | succ k ih =>
    unfold msk
    split
    next hp =>
      rw [b_put (by omega), ih (by omega)]
      by_cases hik : i = k
      · subst hik; simp [hp]
      · have : (decide (i < k + 1)) = decide (i < k) := by simp; omega
        simp [hik, this]
    next hp =>
      rw [ih (by omega)]
      by_cases hik : i = k
      · subst hik; simp at hp; simp [hp]
      · have : (decide (i < k + 1)) = decide (i < k) := by simp; omega
        rw [this]
set_option maxHeartbeats 4000000 in
set_option maxRecDepth 100000 in
 theorem c_setIn {G : GC} {B n : Nat} {h : HT} {q N : Nat} {S : Nat → Int32} {F : Nat → Nat → Int32} (hN : N ≤ 20) (w : Int32) : CtJ G B M5_setIn [.ref (B + q), .int w] n (wQ B q N S F h) 0 0 (eqP (some (.int (msk (fun i => decide (F 5 i = w)) N))) n (wQ B q N S F h)) := by
  unfold CtJ
  repeat (first | refine jj_sx [4] rfl rfl rfl ?_ | refine jj_incx [4] rfl rfl rfl ?_)
  have L : ∀ d k, k ≤ N → N + 1 ≤ k + d → JJ X0 G B M5_setIn 4 [some (.ref (B + q)), some (.int w), some (.int (msk (fun i => decide (F 5 i = w)) k)), some (.int (nI k))] [] n (wQ B q N S F h) 0 0 (eqP (some (.int (msk (fun i => decide (F 5 i = w)) N))) n (wQ B q N S F h)) := by
    intro d
    induction d with
    | zero => intro k h1 h2; exact absurd h2 (by omega)
    | succ d ih =>
      intro k h1 h2
      refine jj_s rfl rfl ?_; repeat (first | refine jj_sx [4] rfl rfl rfl ?_ | refine jj_gx [4] rfl rfl rfl wQ_o rfl ?_ | refine jj_incx [4] rfl rfl rfl ?_)
      refine jj_geN 34 rfl rfl (by omega) (by omega) (fun c => ?_) (fun c => ?_)
      · repeat (first | refine jj_s rfl rfl ?_)
        exact jj_iret rfl rfl ⟨by rw [show k = N by omega], rfl, rfl⟩
      · repeat (first | refine jj_s rfl rfl ?_ | refine jj_g rfl rfl wQ_o rfl ?_)
        refine jj_ialdN rfl (wQ_a (by decide)) (by omega) rfl ?_
        repeat (first | refine jj_s rfl rfl ?_)
        refine jj_icmp_ne 28 rfl rfl (fun c2 => ?_) (fun c2 => ?_)
        · repeat (first | refine jj_sx [4] rfl rfl rfl ?_ | refine jj_incx [4] rfl rfl rfl ?_)
          refine jj_lv ?_ (ih (k + 1) (by omega) (by omega))
          simp [msk, c2]
        · repeat (first | refine jj_sx [4] rfl rfl rfl ?_ | refine jj_incx [4] rfl rfl rfl ?_)
          refine jj_lv ?_ (ih (k + 1) (by omega) (by omega))
          simp [msk, c2, bit]
  exact L (N + 1) 0 (by omega) (by omega)
