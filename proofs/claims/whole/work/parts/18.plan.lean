/-! Plan -/
abbrev lob (B o : Nat) (V : Nat → Int32) : AE := ob 4 [.int (V 0), .ref (B + (o + 1)), .ref (B + (o + 2)), .ref (B + (o + 3)), .int (V 4), .int (V 5), .int (V 6), .int (V 7)]
/-- the heap of a plan: the Queue at q, the Plan at o -/
abbrev wL (B q N : Nat) (S : Nat → Int32) (F : Nat → Nat → Int32) (o : Nat) (V : Nat → Int32) (P : Nat → Nat → Int32) (h : HT) : HT := wQ B q N S F (wA o 3 (lob B o V) P h)
theorem jj_lpt {X : State → Prop} {G : GC} {B : Nat} {y : MT} {pc : Nat} {lv : List (Option Value)} {st : List Value} {n : Nat} {h : HT} {kc ks : Nat} {post : Option Value → Nat → HT → Prop} {q N : Nat} {S : Nat → Int32} {F : Nat → Nat → Int32} {o : Nat} {V : Nat → Int32} {P : Nat → Nat → Int32} {idx k : Nat} {x : Int32} (ha : o + 4 ≤ q ∨ q + 14 ≤ o) (hd : lk (M_tb y) pc = some (.putfield idx)) (hf : fld (M_own y) idx = some (4, k)) (hk : [0, 4, 5, 6, 7].elem k = true) (K : JJ X G B y (pc + 3) lv st n (wL B q N S F o (upd V k x) P h) kc ks post) : JJ X G B y pc lv (.int x :: .ref (B + o) :: st) n (wL B q N S F o V P h) kc ks post := by
  have hk : k ∈ [0, 4, 5, 6, 7] := by simpa using hk
  have e : ∀ obj, hu (wL B q N S F o V P h) o obj = wQ B q N S F (wA o 3 obj P h) := fun obj => (wQ_hu (by omega)).trans (by rw [wA_obj])
  simp only [List.mem_cons, List.not_mem_nil, or_false] at hk
  rcases hk with rfl | rfl | rfl | rfl | rfl <;> exact jj_p hd hf rfl rfl (wQA_o ha) rfl (jj_h (e _) K)
def ec (P : Nat → Nat → Int32) (V : Nat → Int32) : Nat → (Nat → Int32)
  | 0 => V
  | k + 1 => if bt (ec P V k 6) k = true ∧ P 1 k ≤ ec P V k 0 then upd (upd (ec P V k) 6 (ec P V k 6 &&& (bit k ^^^ -1))) 7 (ec P V k 7 + 1) else ec P V k
set_option maxHeartbeats 4000000 in
set_option maxRecDepth 100000 in
 theorem c_endCompleted {G : GC} {B n : Nat} {h : HT} {q N : Nat} {S : Nat → Int32} {F : Nat → Nat → Int32} {o : Nat} {V : Nat → Int32} {P : Nat → Nat → Int32} (hN : N ≤ 20) (ha : o + 4 ≤ q ∨ q + 14 ≤ o) : CtJ G B M4_endCompleted [.ref (B + o), .int (nI N)] n (wL B q N S F o V P h) 0 0 (eqP none n (wL B q N S F o (ec P V N) P h)) := by
  have oP : ∀ V, wL B q N S F o V P h o = some (lob B o V) := fun V => wQA_o ha
  unfold CtJ
  refine jj_lv (lv' := [some (.ref (B + o)), some (.int (nI N)), none]) rfl ?_
  refine jj_s (pc' := 1) rfl rfl ?_
  refine jj_s (pc' := 2) rfl rfl ?_
  have L : ∀ d k, k ≤ N → N + 1 ≤ k + d → JJ X0 G B M4_endCompleted 2 [some (.ref (B + o)), some (.int (nI N)), some (.int (nI k))] [] n (wL B q N S F o (ec P V k) P h) 0 0 (eqP none n (wL B q N S F o (ec P V N) P h)) := by
    intro d
    induction d with
    | zero => intro k h1 h2; exact absurd h2 (by omega)
    | succ d ih =>
      intro k h1 h2
      refine jj_s (pc' := 3) rfl rfl ?_
      refine jj_s (pc' := 4) rfl rfl ?_
      refine jj_geN 61 rfl rfl (by omega) (by omega) (fun c => ?_) (fun c => ?_)
      · exact jj_vret rfl rfl ⟨rfl, rfl, by rw [show k = N by omega]⟩
      · have skip : ¬ (bt (ec P V k 6) k = true ∧ P 1 k ≤ ec P V k 0) → JJ X0 G B M4_endCompleted 55 [some (.ref (B + o)), some (.int (nI N)), some (.int (nI k))] [] n (wL B q N S F o (ec P V k) P h) 0 0 (eqP none n (wL B q N S F o (ec P V N) P h)) := by
          intro hs
          have e : ec P V (k + 1) = ec P V k := by rw [ec, if_neg hs]
          first | refine jj_inc rfl rfl ?_ | refine jj_s (pc' := 58) rfl rfl ?_
          refine jj_s (pc' := 2) rfl rfl ?_
          exact jj_h (by rw [e]) (ih (k + 1) (by omega) (by omega))
        refine jj_s (pc' := 8) rfl rfl ?_
        refine jj_g rfl rfl (oP _) rfl ?_
        refine jj_s (pc' := 12) rfl rfl ?_
        refine jj_t2 rfl rfl rfl rfl rfl (c_has (by omega)) ?_
        refine jj_zT 55 rfl rfl (fun c2 => ?_) (fun c2 => ?_)
        · exact skip (fun z => by rw [c2] at z; cases z.1)
        · refine jj_s (pc' := 19) rfl rfl ?_
          refine jj_g rfl rfl (oP _) rfl ?_
          refine jj_s (pc' := 23) rfl rfl ?_
          refine jj_ald2 rfl (by decide) (by first | assumption | omega) (by first | assumption | omega) ?_
          refine jj_s (pc' := 25) rfl rfl ?_
          refine jj_g rfl rfl (oP _) rfl ?_
          refine jj_icmp_gt 55 rfl rfl (fun c3 => ?_) (fun c3 => ?_)
          · exact skip (fun z => Int32.not_le.mpr c3 z.2)
          · have e : ec P V (k + 1) = upd (upd (ec P V k) 6 (ec P V k 6 &&& (bit k ^^^ -1))) 7 (ec P V k 7 + 1) := by rw [ec, if_pos ⟨c2, Int32.not_lt.mp c3⟩]
            refine jj_s (pc' := 32) rfl rfl ?_
            refine jj_s (pc' := 33) rfl rfl ?_
            refine jj_g rfl rfl (oP _) rfl ?_
            refine jj_s (pc' := 37) rfl rfl ?_
            refine jj_s (pc' := 38) rfl rfl ?_
            refine jj_s (pc' := 39) rfl rfl ?_
            refine jj_s (pc' := 40) rfl rfl ?_
            refine jj_s (pc' := 41) rfl rfl ?_
            refine jj_s (pc' := 42) rfl rfl ?_
            refine jj_lpt ha rfl rfl rfl ?_
            refine jj_s (pc' := 46) rfl rfl ?_
            refine jj_s (pc' := 47) rfl rfl ?_
            refine jj_g rfl rfl (oP _) rfl ?_
            refine jj_s (pc' := 51) rfl rfl ?_
            refine jj_s (pc' := 52) rfl rfl ?_
            refine jj_lpt ha rfl rfl rfl ?_
            first | refine jj_inc rfl rfl ?_ | refine jj_s (pc' := 58) rfl rfl ?_
            refine jj_s (pc' := 2) rfl rfl ?_
            exact jj_h (by rw [e]; rfl) (ih (k + 1) (by omega) (by omega))
  exact L (N + 1) 0 (by omega) (by omega)
def fsL (F : Nat → Nat → Int32) (ne cd : Int32) (V : Nat → Int32) (P : Nat → Nat → Int32) : Nat → (Nat → Int32) × (Nat → Nat → Int32)
  | 0 => (V, P)
  | k + 1 => if bt cd k = true ∧ prd F k &&& ne = 0 then (upd (fsL F ne cd V P k).1 5 ((fsL F ne cd V P k).1 5 ||| bit k), uF (fsL F ne cd V P k).2 2 k ((fsL F ne cd V P k).1 0)) else fsL F ne cd V P k
theorem fsL_0 (F : Nat → Nat → Int32) (ne cd : Int32) (V : Nat → Int32) (P : Nat → Nat → Int32) (k : Nat) : ∀ j, j ≠ 5 → (fsL F ne cd V P k).1 j = V j := by
  intro j hj
  induction k with
  | zero => rfl
  | succ k ih =>
    unfold fsL
    split
    next => show upd _ 5 _ j = _; rw [pk_un hj]; exact ih
    next => exact ih
def fsS (F : Nat → Nat → Int32) (N : Nat) (V : Nat → Int32) (P : Nat → Nat → Int32) : (Nat → Int32) × (Nat → Nat → Int32) := fsL F (V 4 ||| V 6) (V 4 &&& (V 5 ^^^ -1)) V P N
set_option maxHeartbeats 4000000 in
set_option maxRecDepth 100000 in
 theorem c_findStartable {G : GC} {B n : Nat} {h : HT} {q N : Nat} {S : Nat → Int32} {F : Nat → Nat → Int32} {o : Nat} {V : Nat → Int32} {P : Nat → Nat → Int32} (hN : N ≤ 20) (ha : o + 4 ≤ q ∨ q + 14 ≤ o) : CtJ G B M4_findStartable [.ref (B + o), .ref (B + q)] n (wL B q N S F o V P h) 0 0 (eqP none n (wL B q N S F o (fsS F N V P).1 (fsS F N V P).2 h)) := by
  have oP : ∀ V P, wL B q N S F o V P h o = some (lob B o V) := fun V P => wQA_o ha
  unfold CtJ
  refine jj_lv (lv' := [some (.ref (B + o)), some (.ref (B + q)), none, none, none]) rfl ?_
  refine jj_s (pc' := 1) rfl rfl ?_
  refine jj_g rfl rfl (oP _ _) rfl ?_
  refine jj_s (pc' := 5) rfl rfl ?_
  refine jj_g rfl rfl (oP _ _) rfl ?_
  refine jj_s (pc' := 9) rfl rfl ?_
  refine jj_s (pc' := 10) rfl rfl ?_
  refine jj_s (pc' := 11) rfl rfl ?_
  refine jj_g rfl rfl (oP _ _) rfl ?_
  refine jj_s (pc' := 15) rfl rfl ?_
  refine jj_g rfl rfl (oP _ _) rfl ?_
  refine jj_s (pc' := 19) rfl rfl ?_
  refine jj_s (pc' := 20) rfl rfl ?_
  refine jj_s (pc' := 21) rfl rfl ?_
  refine jj_s (pc' := 22) rfl rfl ?_
  refine jj_s (pc' := 23) rfl rfl ?_
  refine jj_s (pc' := 25) rfl rfl ?_
  unfold fsS
  generalize V 4 ||| V 6 = ne
  refine jj_lv (lv' := [some (.ref (B + o)), some (.ref (B + q)), some (.int ne), some (.int (V 4 &&& (V 5 ^^^ -1))), some (.int (nI 0))]) rfl ?_
  generalize V 4 &&& (V 5 ^^^ -1) = cd
  have L : ∀ d k, k ≤ N → N + 1 ≤ k + d → JJ X0 G B M4_findStartable 25 [some (.ref (B + o)), some (.ref (B + q)), some (.int ne), some (.int cd), some (.int (nI k))] [] n (wL B q N S F o (fsL F ne cd V P k).1 (fsL F ne cd V P k).2 h) 0 0 (eqP none n (wL B q N S F o (fsL F ne cd V P N).1 (fsL F ne cd V P N).2 h)) := by
    intro d
    induction d with
    | zero => intro k h1 h2; exact absurd h2 (by omega)
    | succ d ih =>
      intro k h1 h2
      refine jj_s (pc' := 27) rfl rfl ?_
      refine jj_s (pc' := 28) rfl rfl ?_
      refine jj_g rfl rfl wQ_o rfl ?_
      refine jj_geN 84 rfl rfl (by omega) (by omega) (fun c => ?_) (fun c => ?_)
      · exact jj_vret rfl rfl ⟨rfl, rfl, by rw [show k = N by omega]⟩
      · have skip : ¬ (bt cd k = true ∧ prd F k &&& ne = 0) → JJ X0 G B M4_findStartable 78 [some (.ref (B + o)), some (.ref (B + q)), some (.int ne), some (.int cd), some (.int (nI k))] [] n (wL B q N S F o (fsL F ne cd V P k).1 (fsL F ne cd V P k).2 h) 0 0 (eqP none n (wL B q N S F o (fsL F ne cd V P N).1 (fsL F ne cd V P N).2 h)) := by
          intro hs
          have e : fsL F ne cd V P (k + 1) = fsL F ne cd V P k := by rw [fsL, if_neg hs]
          first | refine jj_inc rfl rfl ?_ | refine jj_s (pc' := 81) rfl rfl ?_
          refine jj_s (pc' := 25) rfl rfl ?_
          exact jj_h (by rw [e]) (ih (k + 1) (by omega) (by omega))
        refine jj_s (pc' := 35) rfl rfl ?_
        refine jj_s (pc' := 37) rfl rfl ?_
        refine jj_t2 rfl rfl rfl rfl rfl (c_has (by omega)) ?_
        refine jj_zT 78 rfl rfl (fun c2 => ?_) (fun c2 => ?_)
        · exact skip (fun z => by rw [c2] at z; cases z.1)
        · refine jj_s (pc' := 44) rfl rfl ?_
          refine jj_s (pc' := 46) rfl rfl ?_
          refine jj_v1 rfl rfl rfl wQ_o rfl rfl (c_predecessors (by omega)) ?_
          refine jj_s (pc' := 50) rfl rfl ?_
          refine jj_s (pc' := 51) rfl rfl ?_
          refine jj_if_ne 78 rfl rfl (fun c3 => ?_) (fun c3 => ?_)
          · exact skip (fun z => c3 z.2)
          · have e : fsL F ne cd V P (k + 1) = (upd (fsL F ne cd V P k).1 5 ((fsL F ne cd V P k).1 5 ||| bit k), uF (fsL F ne cd V P k).2 2 k ((fsL F ne cd V P k).1 0)) := by rw [fsL, if_pos ⟨c2, c3⟩]
            refine jj_s (pc' := 55) rfl rfl ?_
            refine jj_s (pc' := 56) rfl rfl ?_
            refine jj_g rfl rfl (oP _ _) rfl ?_
            refine jj_s (pc' := 60) rfl rfl ?_
            refine jj_s (pc' := 62) rfl rfl ?_
            refine jj_s (pc' := 63) rfl rfl ?_
            refine jj_s (pc' := 64) rfl rfl ?_
            refine jj_lpt ha rfl rfl rfl ?_
            refine jj_s (pc' := 68) rfl rfl ?_
            refine jj_g rfl rfl (oP _ _) rfl ?_
            refine jj_s (pc' := 73) rfl rfl ?_
            refine jj_s (pc' := 74) rfl rfl ?_
            refine jj_g rfl rfl (oP _ _) rfl ?_
            refine jj_ast2 rfl (by decide) (by first | assumption | omega) (by first | assumption | omega) ?_
            first | refine jj_inc rfl rfl ?_ | refine jj_s (pc' := 81) rfl rfl ?_
            refine jj_s (pc' := 25) rfl rfl ?_
            exact jj_h (by rw [e]; rfl) (ih (k + 1) (by omega) (by omega))
  exact L (N + 1) 0 (by omega) (by omega)
def bsR (F : Nat → Nat → Int32) (H : Nat → Int32) (pol : Int32) (V : Nat → Int32) (P : Nat → Nat → Int32) (i : Nat) : Int32 := rkF F i pol (H i) (V 0 - P 2 i)
def bsB (F : Nat → Nat → Int32) (N : Nat) (H : Nat → Int32) (pol : Int32) (V : Nat → Int32) (P : Nat → Nat → Int32) : Option Nat := pkB (bt (V 5)) (bsR F H pol V P) N
set_option maxHeartbeats 4000000 in
set_option maxRecDepth 100000 in
 theorem c_bestStartable {G : GC} {B n : Nat} {h : HT} {q N : Nat} {S : Nat → Int32} {F : Nat → Nat → Int32} {o a : Nat} {V : Nat → Int32} {P : Nat → Nat → Int32} {H : Nat → Int32} (hN : N ≤ 20) (ha : o + 4 ≤ q ∨ q + 14 ≤ o) (hH : wL B q N S F o V P h a = some (ia 20 H)) (pol : Int32) : CtJ G B M4_bestStartable [.ref (B + o), .ref (B + q), .ref (B + a), .int pol] n (wL B q N S F o V P h) 0 0 (eqP (some (.int (enc (bsB F N H pol V P)))) n (wL B q N S F o V P h)) := by
  have oP : wL B q N S F o V P h o = some (lob B o V) := wQA_o ha
  unfold CtJ
  refine jj_lv (lv' := [some (.ref (B + o)), some (.ref (B + q)), some (.ref (B + a)), some (.int pol), none, none, none, none]) rfl ?_
  refine jj_s (pc' := 2) rfl rfl ?_
  refine jj_s (pc' := 4) rfl rfl ?_
  refine jj_s (pc' := 5) rfl rfl ?_
  refine jj_s (pc' := 7) rfl rfl ?_
  refine jj_s (pc' := 8) rfl rfl ?_
  refine jj_s (pc' := 10) rfl rfl ?_
  unfold bsB
  have L : ∀ d k z, k ≤ N → N + 1 ≤ k + d → JJ X0 G B M4_bestStartable 10 [some (.ref (B + o)), some (.ref (B + q)), some (.ref (B + a)), some (.int pol), some (.int (enc (pkB (bt (V 5)) (bsR F H pol V P) k))), some (.int (rkO (bsR F H pol V P) (pkB (bt (V 5)) (bsR F H pol V P) k))), some (.int (nI k)), z] [] n (wL B q N S F o V P h) 0 0 (eqP (some (.int (enc (pkB (bt (V 5)) (bsR F H pol V P) N)))) n (wL B q N S F o V P h)) := by
    intro d
    induction d with
    | zero => intro k z h1 h2; exact absurd h2 (by omega)
    | succ d ih =>
      intro k z h1 h2
      refine jj_s (pc' := 12) rfl rfl ?_
      refine jj_s (pc' := 13) rfl rfl ?_
      refine jj_g rfl rfl wQ_o rfl ?_
      refine jj_geN 84 rfl rfl (by omega) (by omega) (fun c => ?_) (fun c => ?_)
      · refine jj_s (pc' := 86) rfl rfl ?_
        exact jj_iret rfl rfl ⟨by rw [show k = N by omega], rfl, rfl⟩
      · refine jj_s (pc' := 20) rfl rfl ?_
        refine jj_g rfl rfl oP rfl ?_
        refine jj_s (pc' := 25) rfl rfl ?_
        refine jj_t2 rfl rfl rfl rfl rfl (c_has (by omega)) ?_
        refine jj_zT 78 rfl rfl (fun c2 => ?_) (fun c2 => ?_)
        · first | refine jj_inc rfl rfl ?_ | refine jj_s (pc' := 81) rfl rfl ?_
          refine jj_s (pc' := 10) rfl rfl ?_
          refine jj_lv ?_ (ih (k + 1) z (by omega) (by omega))
          rw [pkB_skip c2]; rfl
        · refine jj_s (pc' := 32) rfl rfl ?_
          refine jj_s (pc' := 34) rfl rfl ?_
          refine jj_s (pc' := 35) rfl rfl ?_
          refine jj_s (pc' := 36) rfl rfl ?_
          refine jj_s (pc' := 38) rfl rfl ?_
          refine jj_ialdN rfl hH (by omega) rfl ?_
          refine jj_s (pc' := 40) rfl rfl ?_
          refine jj_g rfl rfl oP rfl ?_
          refine jj_s (pc' := 44) rfl rfl ?_
          refine jj_g rfl rfl oP rfl ?_
          refine jj_s (pc' := 49) rfl rfl ?_
          refine jj_ald2 rfl (by decide) (by first | assumption | omega) (by first | assumption | omega) ?_
          refine jj_s (pc' := 51) rfl rfl ?_
          refine jj_v4 rfl rfl rfl wQ_o rfl rfl (c_rankFor (by omega) _ _ _) ?_
          refine jj_s (pc' := 56) rfl rfl ?_
          refine jj_s (pc' := 58) rfl rfl ?_
          refine jj_s (pc' := 60) rfl rfl ?_
          cases hp : pkB (bt (V 5)) (bsR F H pol V P) k with
          | none =>
            refine jj_icmp_eq 70 rfl rfl (fun c3 => ?_) (fun c3 => absurd rfl c3)
            refine jj_s (pc' := 72) rfl rfl ?_
            refine jj_s (pc' := 74) rfl rfl ?_
            refine jj_s (pc' := 76) rfl rfl ?_
            refine jj_s (pc' := 78) rfl rfl ?_
            first | refine jj_inc rfl rfl ?_ | refine jj_s (pc' := 81) rfl rfl ?_
            refine jj_s (pc' := 10) rfl rfl ?_
            refine jj_lv ?_ (ih (k + 1) (some (.int (bsR F H pol V P k))) (by omega) (by omega))
            rw [pkB_none hp c2]; rfl
          | some b =>
            refine jj_icmp_eq 70 rfl rfl (fun c3 => absurd c3 (enc_ne (by have := (pkB_lt _ _ _ _ hp).1; omega))) (fun c3 => ?_)
            refine jj_s (pc' := 65) rfl rfl ?_
            refine jj_s (pc' := 67) rfl rfl ?_
            refine jj_icmp_le 78 rfl rfl (fun c4 => ?_) (fun c4 => ?_)
            · first | refine jj_inc rfl rfl ?_ | refine jj_s (pc' := 81) rfl rfl ?_
              refine jj_s (pc' := 10) rfl rfl ?_
              refine jj_lv ?_ (ih (k + 1) (some (.int (bsR F H pol V P k))) (by omega) (by omega))
              have c4 : ¬ bsR F H pol V P b < bsR F H pol V P k := Int32.not_lt.mpr c4
              rw [pkB_lose hp c4]; rfl
            · refine jj_s (pc' := 72) rfl rfl ?_
              refine jj_s (pc' := 74) rfl rfl ?_
              refine jj_s (pc' := 76) rfl rfl ?_
              refine jj_s (pc' := 78) rfl rfl ?_
              first | refine jj_inc rfl rfl ?_ | refine jj_s (pc' := 81) rfl rfl ?_
              refine jj_s (pc' := 10) rfl rfl ?_
              refine jj_lv ?_ (ih (k + 1) (some (.int (bsR F H pol V P k))) (by omega) (by omega))
              have c4 : bsR F H pol V P b < bsR F H pol V P k := Int32.not_le.mp c4
              rw [pkB_win hp c2 c4]; rfl
  exact L (N + 1) 0 none (by omega) (by omega)
def st1V (V : Nat → Int32) (b : Nat) : Nat → Int32 := upd (upd (upd (upd V 5 (V 5 &&& (bit b ^^^ -1))) 4 (V 4 &&& (bit b ^^^ -1))) 6 (V 6 ||| bit b)) 7 (V 7 - 1)
def st1P (F : Nat → Nat → Int32) (V : Nat → Int32) (P : Nat → Nat → Int32) (b : Nat) : Nat → Nat → Int32 := uF (uF P 0 b (V 0)) 1 b (V 0 + F 1 b)
def sIL (F : Nat → Nat → Int32) (N : Nat) (H : Nat → Int32) (pol : Int32) : Nat → (Nat → Int32) → (Nat → Nat → Int32) → (Nat → Int32) × (Nat → Nat → Int32)
  | 0, V, P => (V, P)
  | m + 1, V, P => if V 7 ≤ 0 ∨ V 5 = 0 then (V, P) else match bsB F N H pol V P with
    | none => sIL F N H pol m V P
    | some b => sIL F N H pol m (st1V V b) (st1P F V P b)
set_option maxHeartbeats 4000000 in
set_option maxRecDepth 100000 in
 theorem c_startItems {G : GC} {B n : Nat} {h : HT} {q N : Nat} {S : Nat → Int32} {F : Nat → Nat → Int32} {o a : Nat} {V : Nat → Int32} {P : Nat → Nat → Int32} {H : Nat → Int32} (hN : N ≤ 20) (ha : o + 4 ≤ q ∨ q + 14 ≤ o) (hH : h a = some (ia 20 H)) (ha1 : a < q ∨ q + 14 ≤ a) (ha2 : a < o ∨ o + 4 ≤ a) (pol : Int32) : CtJ G B M4_startItems [.ref (B + o), .ref (B + q), .ref (B + a), .int pol] n (wL B q N S F o V P h) 0 0 (eqP none n (wL B q N S F o (sIL F N H pol 6 V P).1 (sIL F N H pol 6 V P).2 h)) := by
  have oP : ∀ V P, wL B q N S F o V P h o = some (lob B o V) := fun V P => wQA_o ha
  have hHH : ∀ V P, wL B q N S F o V P h a = some (ia 20 H) := fun V P => (wQ_n ha1).trans ((wA_n (by omega)).trans hH)
  unfold CtJ
  refine jj_lv (lv' := [some (.ref (B + o)), some (.ref (B + q)), some (.ref (B + a)), some (.int pol), none, none]) rfl ?_
  refine jj_s (pc' := 1) rfl rfl ?_
  refine jj_s (pc' := 3) rfl rfl ?_
  have L : ∀ m (V : Nat → Int32) (P : Nat → Nat → Int32) z, m ≤ 6 → JJ X0 G B M4_startItems 3 [some (.ref (B + o)), some (.ref (B + q)), some (.ref (B + a)), some (.int pol), some (.int (nI (6 - m))), z] [] n (wL B q N S F o V P h) 0 0 (eqP none n (wL B q N S F o (sIL F N H pol m V P).1 (sIL F N H pol m V P).2 h)) := by
    intro m
    induction m with
    | zero =>
      intro V P z h0
      refine jj_s (pc' := 5) rfl rfl ?_
      refine jj_s (pc' := 7) rfl rfl ?_
      refine jj_icmp_ge 131 rfl rfl (fun c => ?_) (fun c => absurd (by decide) c)
      exact jj_vret rfl rfl ⟨rfl, rfl, rfl⟩
    | succ m ih =>
      intro V P z h0
      refine jj_s (pc' := 5) rfl rfl ?_
      refine jj_s (pc' := 7) rfl rfl ?_
      refine jj_geN (b := 6) 131 rfl rfl (by omega) (by omega) (fun c => absurd c (by omega)) (fun c => ?_)
      refine jj_s (pc' := 11) rfl rfl ?_
      refine jj_g rfl rfl (oP _ _) rfl ?_
      refine jj_if_le 131 rfl rfl (fun c1 => ?_) (fun c1 => ?_)
      · exact jj_vret rfl rfl ⟨rfl, rfl, by rw [sIL, if_pos (Or.inl c1)]⟩
      · refine jj_s (pc' := 18) rfl rfl ?_
        refine jj_g rfl rfl (oP _ _) rfl ?_
        refine jj_if_eq 131 rfl rfl (fun c2 => ?_) (fun c2 => ?_)
        · exact jj_vret rfl rfl ⟨rfl, rfl, by rw [sIL, if_pos (Or.inr c2)]⟩
        · have hs : ¬ (V 7 ≤ 0 ∨ V 5 = 0) := fun z => z.elim c1 c2
          refine jj_s (pc' := 25) rfl rfl ?_
          refine jj_s (pc' := 26) rfl rfl ?_
          refine jj_s (pc' := 27) rfl rfl ?_
          refine jj_s (pc' := 28) rfl rfl ?_
          refine jj_v3 rfl rfl rfl (oP _ _) rfl rfl (c_bestStartable hN ha (hHH _ _) pol) ?_
          refine jj_s (pc' := 33) rfl rfl ?_
          refine jj_s (pc' := 34) rfl rfl ?_
          refine jj_s (pc' := 36) rfl rfl ?_
          refine jj_v1 rfl rfl rfl wQ_o rfl rfl (c_holds _) ?_
          cases hb : bsB F N H pol V P with
          | none =>
            have e : sIL F N H pol (m + 1) V P = sIL F N H pol m V P := by rw [sIL, if_neg hs, hb]
            refine jj_zT 125 rfl rfl (fun c3 => ?_) (fun c3 => absurd c3 (by simp [enc]))
            first | refine jj_inc rfl rfl ?_ | refine jj_s (pc' := 128) rfl rfl ?_
            refine jj_s (pc' := 3) rfl rfl ?_
            refine jj_lv ?_ ((congrArg (fun r : (Nat → Int32) × (Nat → Nat → Int32) => JJ X0 G B M4_startItems 3 [some (.ref (B + o)), some (.ref (B + q)), some (.ref (B + a)), some (.int pol), some (.int (nI (6 - m))), some (.int (-7))] [] n (wL B q N S F o V P h) 0 0 (eqP none n (wL B q N S F o r.1 r.2 h))) e).mpr (ih V P (some (.int (-7))) (by omega)))
            rw [show 6 - (m + 1) + 1 = 6 - m by omega]; rfl
          | some b =>
            have hbN := (pkB_lt _ _ _ _ hb).1
            have e : sIL F N H pol (m + 1) V P = sIL F N H pol m (st1V V b) (st1P F V P b) := by rw [sIL, if_neg hs, hb]
            refine jj_zT 125 rfl rfl (fun c3 => absurd (show 0 ≤ enc (some b) ∧ enc (some b) < nI N from ⟨nI_pos' (by omega), nI_lt hbN (by omega)⟩) (of_decide_eq_false c3)) (fun c3 => ?_)
            refine jj_s (pc' := 43) rfl rfl ?_
            refine jj_s (pc' := 44) rfl rfl ?_
            refine jj_g rfl rfl (oP _ _) rfl ?_
            refine jj_s (pc' := 48) rfl rfl ?_
            refine jj_s (pc' := 50) rfl rfl ?_
            refine jj_s (pc' := 51) rfl rfl ?_
            refine jj_s (pc' := 52) rfl rfl ?_
            refine jj_s (pc' := 53) rfl rfl ?_
            refine jj_s (pc' := 54) rfl rfl ?_
            refine jj_lpt ha rfl rfl rfl ?_
            refine jj_s (pc' := 58) rfl rfl ?_
            refine jj_s (pc' := 59) rfl rfl ?_
            refine jj_g rfl rfl (oP _ _) rfl ?_
            refine jj_s (pc' := 63) rfl rfl ?_
            refine jj_s (pc' := 65) rfl rfl ?_
            refine jj_s (pc' := 66) rfl rfl ?_
            refine jj_s (pc' := 67) rfl rfl ?_
            refine jj_s (pc' := 68) rfl rfl ?_
            refine jj_s (pc' := 69) rfl rfl ?_
            refine jj_lpt ha rfl rfl rfl ?_
            refine jj_s (pc' := 73) rfl rfl ?_
            refine jj_s (pc' := 74) rfl rfl ?_
            refine jj_g rfl rfl (oP _ _) rfl ?_
            refine jj_s (pc' := 78) rfl rfl ?_
            refine jj_s (pc' := 80) rfl rfl ?_
            refine jj_s (pc' := 81) rfl rfl ?_
            refine jj_s (pc' := 82) rfl rfl ?_
            refine jj_lpt ha rfl rfl rfl ?_
            refine jj_s (pc' := 86) rfl rfl ?_
            refine jj_s (pc' := 87) rfl rfl ?_
            refine jj_g rfl rfl (oP _ _) rfl ?_
            refine jj_s (pc' := 91) rfl rfl ?_
            refine jj_s (pc' := 92) rfl rfl ?_
            refine jj_lpt ha rfl rfl rfl ?_
            refine jj_lv (lv' := [some (.ref (B + o)), some (.ref (B + q)), some (.ref (B + a)), some (.int pol), some (.int (nI (6 - (m + 1)))), some (.int (nI b))]) rfl ?_
            refine jj_s (pc' := 96) rfl rfl ?_
            refine jj_g rfl rfl (oP _ _) rfl ?_
            refine jj_s (pc' := 101) rfl rfl ?_
            refine jj_s (pc' := 102) rfl rfl ?_
            refine jj_g rfl rfl (oP _ _) rfl ?_
            refine jj_ast2 rfl (by decide) (by first | assumption | omega) (by first | assumption | omega) ?_
            refine jj_s (pc' := 107) rfl rfl ?_
            refine jj_g rfl rfl (oP _ _) rfl ?_
            refine jj_s (pc' := 112) rfl rfl ?_
            refine jj_s (pc' := 113) rfl rfl ?_
            refine jj_g rfl rfl (oP _ _) rfl ?_
            refine jj_s (pc' := 117) rfl rfl ?_
            refine jj_g rfl rfl wQ_o rfl ?_
            refine jj_s (pc' := 122) rfl rfl ?_
            refine jj_qld [] rfl rfl (by decide) (by first | assumption | omega) ?_
            refine jj_s (pc' := 124) rfl rfl ?_
            refine jj_ast2 rfl (by decide) (by first | assumption | omega) (by first | assumption | omega) ?_
            first | refine jj_inc rfl rfl ?_ | refine jj_s (pc' := 128) rfl rfl ?_
            refine jj_s (pc' := 3) rfl rfl ?_
            refine jj_lv ?_ ((congrArg (fun r : (Nat → Int32) × (Nat → Nat → Int32) => JJ X0 G B M4_startItems 3 [some (.ref (B + o)), some (.ref (B + q)), some (.ref (B + a)), some (.int pol), some (.int (nI (6 - m))), some (.int (nI b))] [] n (wL B q N S F o (st1V V b) (st1P F V P b) h) 0 0 (eqP none n (wL B q N S F o r.1 r.2 h))) e).mpr (ih (st1V V b) (st1P F V P b) (some (.int (nI b))) (by omega)))
            rw [show 6 - (m + 1) + 1 = 6 - m by omega]; rfl
  exact L 6 V P none (by omega)
def neL (P : Nat → Nat → Int32) (V : Nat → Int32) : Nat → Int32
  | 0 => V 0
  | k + 1 => if bt (V 6) k = true ∧ (neL P V k = V 0 ∨ P 1 k < neL P V k) then P 1 k else neL P V k
set_option maxHeartbeats 4000000 in
set_option maxRecDepth 100000 in
 theorem c_nextEnd {G : GC} {B n : Nat} {h : HT} {q N : Nat} {S : Nat → Int32} {F : Nat → Nat → Int32} {o : Nat} {V : Nat → Int32} {P : Nat → Nat → Int32} (hN : N ≤ 20) (ha : o + 4 ≤ q ∨ q + 14 ≤ o) : CtJ G B M4_nextEnd [.ref (B + o), .int (nI N)] n (wL B q N S F o V P h) 0 0 (eqP (some (.int (neL P V N))) n (wL B q N S F o V P h)) := by
  have oP : wL B q N S F o V P h o = some (lob B o V) := wQA_o ha
  unfold CtJ
  refine jj_lv (lv' := [some (.ref (B + o)), some (.int (nI N)), none, none]) rfl ?_
  refine jj_s (pc' := 1) rfl rfl ?_
  refine jj_g rfl rfl oP rfl ?_
  refine jj_s (pc' := 5) rfl rfl ?_
  refine jj_s (pc' := 6) rfl rfl ?_
  refine jj_s (pc' := 7) rfl rfl ?_
  have L : ∀ d k, k ≤ N → N + 1 ≤ k + d → JJ X0 G B M4_nextEnd 7 [some (.ref (B + o)), some (.int (nI N)), some (.int (neL P V k)), some (.int (nI k))] [] n (wL B q N S F o V P h) 0 0 (eqP (some (.int (neL P V N))) n (wL B q N S F o V P h)) := by
    intro d
    induction d with
    | zero => intro k h1 h2; exact absurd h2 (by omega)
    | succ d ih =>
      intro k h1 h2
      refine jj_s (pc' := 8) rfl rfl ?_
      refine jj_s (pc' := 9) rfl rfl ?_
      refine jj_geN 54 rfl rfl (by omega) (by omega) (fun c => ?_) (fun c => ?_)
      · refine jj_s (pc' := 55) rfl rfl ?_
        exact jj_iret rfl rfl ⟨by rw [show k = N by omega], rfl, rfl⟩
      · have skip : ¬ (bt (V 6) k = true ∧ (neL P V k = V 0 ∨ P 1 k < neL P V k)) → JJ X0 G B M4_nextEnd 48 [some (.ref (B + o)), some (.int (nI N)), some (.int (neL P V k)), some (.int (nI k))] [] n (wL B q N S F o V P h) 0 0 (eqP (some (.int (neL P V N))) n (wL B q N S F o V P h)) := by
          intro hs
          have e : neL P V (k + 1) = neL P V k := by rw [neL, if_neg hs]
          first | refine jj_inc rfl rfl ?_ | refine jj_s (pc' := 51) rfl rfl ?_
          refine jj_s (pc' := 7) rfl rfl ?_
          exact jj_lv (by rw [e]; rfl) (ih (k + 1) (by omega) (by omega))
        have take : bt (V 6) k = true ∧ (neL P V k = V 0 ∨ P 1 k < neL P V k) → JJ X0 G B M4_nextEnd 41 [some (.ref (B + o)), some (.int (nI N)), some (.int (neL P V k)), some (.int (nI k))] [] n (wL B q N S F o V P h) 0 0 (eqP (some (.int (neL P V N))) n (wL B q N S F o V P h)) := by
          intro hs
          have e : neL P V (k + 1) = P 1 k := by rw [neL, if_pos hs]
          refine jj_s (pc' := 42) rfl rfl ?_
          refine jj_g rfl rfl oP rfl ?_
          refine jj_s (pc' := 46) rfl rfl ?_
          refine jj_ald2 rfl (by decide) (by first | assumption | omega) (by first | assumption | omega) ?_
          refine jj_s (pc' := 48) rfl rfl ?_
          first | refine jj_inc rfl rfl ?_ | refine jj_s (pc' := 51) rfl rfl ?_
          refine jj_s (pc' := 7) rfl rfl ?_
          exact jj_lv (by rw [e]; rfl) (ih (k + 1) (by omega) (by omega))
        refine jj_s (pc' := 13) rfl rfl ?_
        refine jj_g rfl rfl oP rfl ?_
        refine jj_s (pc' := 17) rfl rfl ?_
        refine jj_t2 rfl rfl rfl rfl rfl (c_has (by omega)) ?_
        refine jj_zT 48 rfl rfl (fun c2 => ?_) (fun c2 => ?_)
        · exact skip (fun z => by rw [c2] at z; cases z.1)
        · refine jj_s (pc' := 24) rfl rfl ?_
          refine jj_s (pc' := 25) rfl rfl ?_
          refine jj_g rfl rfl oP rfl ?_
          refine jj_icmp_eq 41 rfl rfl (fun c3 => ?_) (fun c3 => ?_)
          · exact take ⟨c2, Or.inl c3⟩
          · refine jj_s (pc' := 32) rfl rfl ?_
            refine jj_g rfl rfl oP rfl ?_
            refine jj_s (pc' := 36) rfl rfl ?_
            refine jj_ald2 rfl (by decide) (by first | assumption | omega) (by first | assumption | omega) ?_
            refine jj_s (pc' := 38) rfl rfl ?_
            refine jj_icmp_ge 48 rfl rfl (fun c4 => ?_) (fun c4 => ?_)
            · exact skip (fun z => z.2.elim c3 (Int32.not_lt.mpr c4))
            · exact take ⟨c2, Or.inr (Int32.not_le.mp c4)⟩
  exact L (N + 1) 0 (by omega) (by omega)
/-- one time of the plan -/
def mk1 (F : Nat → Nat → Int32) (N : Nat) (H : Nat → Int32) (pol : Int32) (V : Nat → Int32) (P : Nat → Nat → Int32) : (Nat → Int32) × (Nat → Nat → Int32) :=
  let a := fsS F N (ec P V N) P
  let b := sIL F N H pol 6 a.1 a.2
  (upd b.1 0 (neL b.2 b.1 N), b.2)
def mkL (F : Nat → Nat → Int32) (N : Nat) (H : Nat → Int32) (pol : Int32) : Nat → (Nat → Int32) → (Nat → Nat → Int32) → (Nat → Int32) × (Nat → Nat → Int32)
  | 0, V, P => (V, P)
  | m + 1, V, P => if V 4 ||| V 6 = 0 then (V, P) else mkL F N H pol m (mk1 F N H pol V P).1 (mk1 F N H pol V P).2
def une (F : Nat → Nat → Int32) (N : Nat) : Int32 := msk (fun i => decide (F 5 i = 0)) N ||| msk (fun i => decide (F 5 i = 1)) N ||| msk (fun i => decide (F 5 i = 2)) N
def mkV (F : Nat → Nat → Int32) (N : Nat) (w : Int32) (V : Nat → Int32) : Nat → Int32 := upd (upd (upd (upd (upd V 4 (une F N)) 5 0) 6 0) 7 w) 0 0
set_option maxHeartbeats 4000000 in
set_option maxRecDepth 100000 in
 theorem c_make {G : GC} {B n : Nat} {h : HT} {q N : Nat} {S : Nat → Int32} {F : Nat → Nat → Int32} {o a : Nat} {V : Nat → Int32} {P : Nat → Nat → Int32} {H : Nat → Int32} (hN : N ≤ 20) (ha : o + 4 ≤ q ∨ q + 14 ≤ o) (hH : h a = some (ia 20 H)) (ha1 : a < q ∨ q + 14 ≤ a) (ha2 : a < o ∨ o + 4 ≤ a) (w pol : Int32) : CtJ G B M4_make [.ref (B + o), .ref (B + q), .ref (B + a), .int w, .int pol] n (wL B q N S F o V P h) 0 0 (eqP none n (wL B q N S F o (mkL F N H pol 21 (mkV F N w V) P).1 (mkL F N H pol 21 (mkV F N w V) P).2 h)) := by
  have oP : ∀ V P, wL B q N S F o V P h o = some (lob B o V) := fun V P => wQA_o ha
  unfold CtJ
  refine jj_lv (lv' := [some (.ref (B + o)), some (.ref (B + q)), some (.ref (B + a)), some (.int w), some (.int pol), none]) rfl ?_
  refine jj_s (pc' := 1) rfl rfl ?_
  refine jj_s (pc' := 2) rfl rfl ?_
  refine jj_v0 rfl rfl rfl wQ_o rfl rfl (c_unendedSet hN) ?_
  refine jj_lpt ha rfl rfl rfl ?_
  refine jj_s (pc' := 9) rfl rfl ?_
  refine jj_s (pc' := 10) rfl rfl ?_
  refine jj_lpt ha rfl rfl rfl ?_
  refine jj_s (pc' := 14) rfl rfl ?_
  refine jj_s (pc' := 15) rfl rfl ?_
  refine jj_lpt ha rfl rfl rfl ?_
  refine jj_s (pc' := 19) rfl rfl ?_
  refine jj_s (pc' := 20) rfl rfl ?_
  refine jj_lpt ha rfl rfl rfl ?_
  refine jj_s (pc' := 24) rfl rfl ?_
  refine jj_s (pc' := 25) rfl rfl ?_
  refine jj_lpt ha rfl rfl rfl ?_
  refine jj_s (pc' := 29) rfl rfl ?_
  refine jj_s (pc' := 31) rfl rfl ?_
  refine jj_h (h' := wL B q N S F o (mkV F N w V) P h) rfl ?_
  generalize mkV F N w V = V
  have L : ∀ m (V : Nat → Int32) (P : Nat → Nat → Int32), m ≤ 21 → JJ X0 G B M4_make 31 [some (.ref (B + o)), some (.ref (B + q)), some (.ref (B + a)), some (.int w), some (.int pol), some (.int (nI (21 - m)))] [] n (wL B q N S F o V P h) 0 0 (eqP none n (wL B q N S F o (mkL F N H pol m V P).1 (mkL F N H pol m V P).2 h)) := by
    intro m
    induction m with
    | zero =>
      intro V P h0
      refine jj_s (pc' := 33) rfl rfl ?_
      refine jj_s (pc' := 35) rfl rfl ?_
      refine jj_icmp_gt 89 rfl rfl (fun c => ?_) (fun c => absurd (by decide) c)
      exact jj_vret rfl rfl ⟨rfl, rfl, rfl⟩
    | succ m ih =>
      intro V P h0
      refine jj_s (pc' := 33) rfl rfl ?_
      refine jj_s (pc' := 35) rfl rfl ?_
      refine jj_icmp_gt 89 rfl rfl (fun c => absurd ((nI_ltI (a := 20) (b := 21 - (m + 1)) (by omega) (by omega)).mp c) (by omega)) (fun c => ?_)
      refine jj_s (pc' := 39) rfl rfl ?_
      refine jj_g rfl rfl (oP _ _) rfl ?_
      refine jj_s (pc' := 43) rfl rfl ?_
      refine jj_g rfl rfl (oP _ _) rfl ?_
      refine jj_s (pc' := 47) rfl rfl ?_
      refine jj_if_eq 89 rfl rfl (fun c1 => ?_) (fun c1 => ?_)
      · exact jj_vret rfl rfl ⟨rfl, rfl, by rw [mkL, if_pos c1]⟩
      · have e : mkL F N H pol (m + 1) V P = mkL F N H pol m (mk1 F N H pol V P).1 (mk1 F N H pol V P).2 := by rw [mkL, if_neg c1]
        refine jj_s (pc' := 51) rfl rfl ?_
        refine jj_s (pc' := 52) rfl rfl ?_
        refine jj_g rfl rfl wQ_o rfl ?_
        refine jj_w1 rfl rfl rfl (oP _ _) rfl rfl (c_endCompleted hN ha) ?_
        refine jj_s (pc' := 59) rfl rfl ?_
        refine jj_s (pc' := 60) rfl rfl ?_
        refine jj_w1 rfl rfl rfl (oP _ _) rfl rfl (c_findStartable hN ha) ?_
        refine jj_s (pc' := 64) rfl rfl ?_
        refine jj_s (pc' := 65) rfl rfl ?_
        refine jj_s (pc' := 66) rfl rfl ?_
        refine jj_s (pc' := 68) rfl rfl ?_
        refine jj_w3 rfl rfl rfl (oP _ _) rfl rfl (c_startItems hN ha hH ha1 ha2 pol) ?_
        refine jj_s (pc' := 72) rfl rfl ?_
        refine jj_s (pc' := 73) rfl rfl ?_
        refine jj_s (pc' := 74) rfl rfl ?_
        refine jj_g rfl rfl wQ_o rfl ?_
        refine jj_v1 rfl rfl rfl (oP _ _) rfl rfl (c_nextEnd hN ha) ?_
        refine jj_lpt ha rfl rfl rfl ?_
        first | refine jj_inc rfl rfl ?_ | refine jj_s (pc' := 86) rfl rfl ?_
        refine jj_s (pc' := 31) rfl rfl ?_
        rw [e]
        refine jj_lv ?_ (ih (mk1 F N H pol V P).1 (mk1 F N H pol V P).2 (by omega))
        rw [show 21 - (m + 1) + 1 = 21 - m by omega]; rfl
  exact L 21 V P (by omega)
