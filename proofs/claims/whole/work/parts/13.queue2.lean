/-! rows for the Queue's cells -/
theorem jj_qld {X : State → Prop} {G : GC} {B : Nat} {y : MT} {pc : Nat} {lv : List (Option Value)} {st : List Value} {n : Nat} {h : HT} {kc ks : Nat} {post : Option Value → Nat → HT → Prop} {q N : Nat} {S : Nat → Int32} {F : Nat → Nat → Int32} {j i : Nat} (zs : List Nat) (hz : zs.elem pc = false) (hd : lk (M_tb y) pc = some .iaload) (hj : j < 13) (hi : i < 20) (K : JJ X G B y (pc + 1) lv (.int (F j i) :: st) n (wQ B q N S F h) kc ks post) : JJ X G B y pc lv (.int (nI i) :: .ref (B + (q + (j + 1))) :: st) n (wQ B q N S F h) kc ks post := jj_ialdN hd (wQ_a hj) hi rfl K
theorem jj_qst {X : State → Prop} {G : GC} {B : Nat} {y : MT} {pc : Nat} {lv : List (Option Value)} {st : List Value} {n : Nat} {h : HT} {kc ks : Nat} {post : Option Value → Nat → HT → Prop} {q N : Nat} {S : Nat → Int32} {F : Nat → Nat → Int32} {j i : Nat} {x : Int32} (zs : List Nat) (hz : zs.elem pc = false) (hd : lk (M_tb y) pc = some .iastore) (hj : j < 13) (hi : i < 20) (K : JJ X G B y (pc + 1) lv st n (wQ B q N S (uF F j i x) h) kc ks post) : JJ X G B y pc lv (.int x :: .int (nI i) :: .ref (B + (q + (j + 1))) :: st) n (wQ B q N S F h) kc ks post := jj_iastN hd (wQ_a hj) hi rfl (jj_h (wQ_put hj) K)
theorem jj_qpt {X : State → Prop} {G : GC} {B : Nat} {y : MT} {pc : Nat} {lv : List (Option Value)} {st : List Value} {n : Nat} {h : HT} {kc ks : Nat} {post : Option Value → Nat → HT → Prop} {q N : Nat} {S : Nat → Int32} {F : Nat → Nat → Int32} {idx k N' : Nat} {x : Int32} {S' : Nat → Int32} (hd : lk (M_tb y) pc = some (.putfield idx)) (hf : fld (M_own y) idx = some (5, k)) (hk : Nat.blt k 5 = true) (he : (qobj B q N S).set k (.int x) = qobj B q N' S') (K : JJ X G B y (pc + 3) lv st n (wQ B q N' S' F h) kc ks post) : JJ X G B y pc lv (.int x :: .ref (B + q) :: st) n (wQ B q N S F h) kc ks post := by
  have hk : k < 5 := by simpa using hk
  refine jj_p hd hf ?_ ?_ wQ_o ?_ (jj_h (wQ_scal he) K)
  · match k, hk with
    | 0, _ => rfl
    | 1, _ => rfl
    | 2, _ => rfl
    | 3, _ => rfl
    | 4, _ => rfl
  · match k, hk with
    | 0, _ => rfl
    | 1, _ => rfl
    | 2, _ => rfl
    | 3, _ => rfl
    | 4, _ => rfl
  · simp [qobj]; omega
set_option maxHeartbeats 4000000 in
set_option maxRecDepth 100000 in
 theorem c_unendedSet {G : GC} {B n : Nat} {h : HT} {q N : Nat} {S : Nat → Int32} {F : Nat → Nat → Int32} (hN : N ≤ 20) : CtJ G B M5_unendedSet [.ref (B + q)] n (wQ B q N S F h) 0 0 (eqP (some (.int (msk (fun i => decide (F 5 i = 0)) N ||| msk (fun i => decide (F 5 i = 1)) N ||| msk (fun i => decide (F 5 i = 2)) N))) n (wQ B q N S F h)) := by
  unfold CtJ
  refine jj_lv (lv' := [some (.ref (B + q))]) rfl ?_
  refine jj_s (pc' := 1) rfl rfl ?_
  refine jj_s (pc' := 2) rfl rfl ?_
  refine jj_v1 rfl rfl rfl wQ_o rfl rfl (c_setIn hN _) ?_
  refine jj_s (pc' := 6) rfl rfl ?_
  refine jj_s (pc' := 7) rfl rfl ?_
  refine jj_v1 rfl rfl rfl wQ_o rfl rfl (c_setIn hN _) ?_
  refine jj_s (pc' := 11) rfl rfl ?_
  refine jj_s (pc' := 12) rfl rfl ?_
  refine jj_s (pc' := 13) rfl rfl ?_
  refine jj_v1 rfl rfl rfl wQ_o rfl rfl (c_setIn hN _) ?_
  refine jj_s (pc' := 17) rfl rfl ?_
  exact jj_iret rfl rfl ⟨rfl, rfl, rfl⟩
set_option maxHeartbeats 4000000 in
set_option maxRecDepth 100000 in
 theorem c_startAnew {G : GC} {B n : Nat} {h : HT} {q N : Nat} {S : Nat → Int32} {F : Nat → Nat → Int32} {i : Nat} (hi : i < 20) : CtJ G B M5_startAnew [.ref (B + q), .int (nI i)] n (wQ B q N S F h) 0 0 (eqP none n (wQ B q N S (uF (uF (uF F 5 i 0) 9 i 0) 10 i (-7)) h)) := by
  unfold CtJ
  refine jj_lv (lv' := [some (.ref (B + q)), some (.int (nI i))]) rfl ?_
  refine jj_s (pc' := 1) rfl rfl ?_
  refine jj_g rfl rfl wQ_o rfl ?_
  refine jj_s (pc' := 5) rfl rfl ?_
  refine jj_s (pc' := 6) rfl rfl ?_
  refine jj_qst [] rfl rfl (by decide) (by first | assumption | omega) ?_
  refine jj_s (pc' := 8) rfl rfl ?_
  refine jj_g rfl rfl wQ_o rfl ?_
  refine jj_s (pc' := 12) rfl rfl ?_
  refine jj_s (pc' := 13) rfl rfl ?_
  refine jj_qst [] rfl rfl (by decide) (by first | assumption | omega) ?_
  refine jj_s (pc' := 15) rfl rfl ?_
  refine jj_g rfl rfl wQ_o rfl ?_
  refine jj_s (pc' := 19) rfl rfl ?_
  refine jj_s (pc' := 21) rfl rfl ?_
  refine jj_qst [] rfl rfl (by decide) (by first | assumption | omega) ?_
  exact jj_vret rfl rfl ⟨rfl, rfl, rfl⟩
set_option maxHeartbeats 4000000 in
set_option maxRecDepth 100000 in
 theorem c_makeReady {G : GC} {B n : Nat} {h : HT} {q N : Nat} {S : Nat → Int32} {F : Nat → Nat → Int32} {i : Nat} (hi : i < 20) (p : Int32) : CtJ G B M5_makeReady [.ref (B + q), .int (nI i), .int p] n (wQ B q N S F h) 0 0 (eqP none n (wQ B q N S (uF (uF (uF F 5 i 1) 6 i (S 1 + p)) 7 i (S 1)) h)) := by
  unfold CtJ
  refine jj_lv (lv' := [some (.ref (B + q)), some (.int (nI i)), some (.int p)]) rfl ?_
  refine jj_s (pc' := 1) rfl rfl ?_
  refine jj_g rfl rfl wQ_o rfl ?_
  refine jj_s (pc' := 5) rfl rfl ?_
  refine jj_s (pc' := 6) rfl rfl ?_
  refine jj_qst [] rfl rfl (by decide) (by first | assumption | omega) ?_
  refine jj_s (pc' := 8) rfl rfl ?_
  refine jj_g rfl rfl wQ_o rfl ?_
  refine jj_s (pc' := 12) rfl rfl ?_
  refine jj_s (pc' := 13) rfl rfl ?_
  refine jj_g rfl rfl wQ_o rfl ?_
  refine jj_s (pc' := 17) rfl rfl ?_
  refine jj_s (pc' := 18) rfl rfl ?_
  refine jj_qst [] rfl rfl (by decide) (by first | assumption | omega) ?_
  refine jj_s (pc' := 20) rfl rfl ?_
  refine jj_g rfl rfl wQ_o rfl ?_
  refine jj_s (pc' := 24) rfl rfl ?_
  refine jj_s (pc' := 25) rfl rfl ?_
  refine jj_g rfl rfl wQ_o rfl ?_
  refine jj_qst [] rfl rfl (by decide) (by first | assumption | omega) ?_
  exact jj_vret rfl rfl ⟨rfl, rfl, rfl⟩
set_option maxHeartbeats 4000000 in
set_option maxRecDepth 100000 in
 theorem c_removeItems {G : GC} {B n : Nat} {h : HT} {q N : Nat} {S : Nat → Int32} {F : Nat → Nat → Int32} : CtJ G B M5_removeItems [.ref (B + q)] n (wQ B q N S F h) 0 0 (eqP none n (wQ B q 0 S F h)) := by
  unfold CtJ
  refine jj_lv (lv' := [some (.ref (B + q))]) rfl ?_
  refine jj_s (pc' := 1) rfl rfl ?_
  refine jj_s (pc' := 2) rfl rfl ?_
  refine jj_qpt (N' := 0) (S' := S) rfl rfl rfl rfl ?_
  exact jj_vret rfl rfl ⟨rfl, rfl, rfl⟩
/-- the predecessors -/
def prd (F : Nat → Nat → Int32) (i : Nat) : Int32 := F 11 i ||| F 12 i
set_option maxHeartbeats 4000000 in
set_option maxRecDepth 100000 in
 theorem c_predecessors {G : GC} {B n : Nat} {h : HT} {q N : Nat} {S : Nat → Int32} {F : Nat → Nat → Int32} {i : Nat} (hi : i < 20) : CtJ G B M5_predecessors [.ref (B + q), .int (nI i)] n (wQ B q N S F h) 0 0 (eqP (some (.int (prd F i))) n (wQ B q N S F h)) := by
  unfold CtJ
  refine jj_lv (lv' := [some (.ref (B + q)), some (.int (nI i))]) rfl ?_
  refine jj_s (pc' := 1) rfl rfl ?_
  refine jj_g rfl rfl wQ_o rfl ?_
  refine jj_s (pc' := 5) rfl rfl ?_
  refine jj_qld [] rfl rfl (by decide) (by first | assumption | omega) ?_
  refine jj_s (pc' := 7) rfl rfl ?_
  refine jj_g rfl rfl wQ_o rfl ?_
  refine jj_s (pc' := 11) rfl rfl ?_
  refine jj_qld [] rfl rfl (by decide) (by first | assumption | omega) ?_
  refine jj_s (pc' := 13) rfl rfl ?_
  exact jj_iret rfl rfl ⟨rfl, rfl, rfl⟩
/-- an item at the end -/
def apF (F : Nat → Nat → Int32) (N : Nat) (a b c d e : Int32) : Nat → Nat → Int32 := uF (uF (uF (uF (uF (uF (uF (uF (uF (uF F 0 N a) 1 N b) 2 N c) 3 N d) 4 N e) 11 N 0) 12 N 0) 5 N 0) 9 N 0) 10 N (-7)
set_option maxHeartbeats 4000000 in
set_option maxRecDepth 100000 in
 theorem c_append {G : GC} {B n : Nat} {h : HT} {q N : Nat} {S : Nat → Int32} {F : Nat → Nat → Int32} (hN : N < 20) (a b c d e : Int32) : CtJ G B M5_append [.ref (B + q), .int a, .int b, .int c, .int d, .int e] n (wQ B q N S F h) 0 0 (eqP (some (.int (nI N))) n (wQ B q (N + 1) S (apF F N a b c d e) h)) := by
  unfold CtJ
  refine jj_lv (lv' := [some (.ref (B + q)), some (.int a), some (.int b), some (.int c), some (.int d), some (.int e), none]) rfl ?_
  refine jj_s (pc' := 1) rfl rfl ?_
  refine jj_g rfl rfl wQ_o rfl ?_
  refine jj_s (pc' := 6) rfl rfl ?_
  refine jj_s (pc' := 7) rfl rfl ?_
  refine jj_s (pc' := 8) rfl rfl ?_
  refine jj_g rfl rfl wQ_o rfl ?_
  refine jj_s (pc' := 12) rfl rfl ?_
  refine jj_s (pc' := 13) rfl rfl ?_
  refine jj_qpt (N' := N + 1) (S' := S) rfl rfl rfl (by rw [show nI N + Int32.ofInt 1 = nI (N + 1) from nI_1 N]; rfl) ?_
  refine jj_s (pc' := 17) rfl rfl ?_
  refine jj_g rfl rfl wQ_o rfl ?_
  refine jj_s (pc' := 22) rfl rfl ?_
  refine jj_s (pc' := 23) rfl rfl ?_
  refine jj_qst [] rfl rfl (by decide) (by first | assumption | omega) ?_
  refine jj_s (pc' := 25) rfl rfl ?_
  refine jj_g rfl rfl wQ_o rfl ?_
  refine jj_s (pc' := 30) rfl rfl ?_
  refine jj_s (pc' := 31) rfl rfl ?_
  refine jj_qst [] rfl rfl (by decide) (by first | assumption | omega) ?_
  refine jj_s (pc' := 33) rfl rfl ?_
  refine jj_g rfl rfl wQ_o rfl ?_
  refine jj_s (pc' := 38) rfl rfl ?_
  refine jj_s (pc' := 39) rfl rfl ?_
  refine jj_qst [] rfl rfl (by decide) (by first | assumption | omega) ?_
  refine jj_s (pc' := 41) rfl rfl ?_
  refine jj_g rfl rfl wQ_o rfl ?_
  refine jj_s (pc' := 46) rfl rfl ?_
  refine jj_s (pc' := 48) rfl rfl ?_
  refine jj_qst [] rfl rfl (by decide) (by first | assumption | omega) ?_
  refine jj_s (pc' := 50) rfl rfl ?_
  refine jj_g rfl rfl wQ_o rfl ?_
  refine jj_s (pc' := 55) rfl rfl ?_
  refine jj_s (pc' := 57) rfl rfl ?_
  refine jj_qst [] rfl rfl (by decide) (by first | assumption | omega) ?_
  refine jj_s (pc' := 59) rfl rfl ?_
  refine jj_g rfl rfl wQ_o rfl ?_
  refine jj_s (pc' := 64) rfl rfl ?_
  refine jj_s (pc' := 65) rfl rfl ?_
  refine jj_qst [] rfl rfl (by decide) (by first | assumption | omega) ?_
  refine jj_s (pc' := 67) rfl rfl ?_
  refine jj_g rfl rfl wQ_o rfl ?_
  refine jj_s (pc' := 72) rfl rfl ?_
  refine jj_s (pc' := 73) rfl rfl ?_
  refine jj_qst [] rfl rfl (by decide) (by first | assumption | omega) ?_
  refine jj_s (pc' := 75) rfl rfl ?_
  refine jj_s (pc' := 77) rfl rfl ?_
  refine jj_w1 rfl rfl rfl wQ_o rfl rfl (c_startAnew hN) ?_
  refine jj_s (pc' := 82) rfl rfl ?_
  exact jj_iret rfl rfl ⟨rfl, rfl, rfl⟩
set_option maxHeartbeats 4000000 in
set_option maxRecDepth 100000 in
 theorem c_edgeKind {G : GC} {B n : Nat} {h : HT} {q N : Nat} {S : Nat → Int32} {F : Nat → Nat → Int32} {p i : Nat} (hp : p < 20) (hi : i < 20) : CtJ G B M5_edgeKind [.ref (B + q), .int (nI p), .int (nI i)] n (wQ B q N S F h) 0 0 (eqP (some (.int (if bt (F 11 i) p = true then 0 else if bt (F 12 i) p = true then 1 else -7))) n (wQ B q N S F h)) := by
  unfold CtJ
  refine jj_lv (lv' := [some (.ref (B + q)), some (.int (nI p)), some (.int (nI i))]) rfl ?_
  refine jj_s (pc' := 1) rfl rfl ?_
  refine jj_g rfl rfl wQ_o rfl ?_
  refine jj_s (pc' := 5) rfl rfl ?_
  refine jj_qld [] rfl rfl (by decide) (by first | assumption | omega) ?_
  refine jj_s (pc' := 7) rfl rfl ?_
  refine jj_t2 rfl rfl rfl rfl rfl (c_has (by omega)) ?_
  refine jj_zT 15 rfl rfl (fun c1 => ?_) (fun c1 => ?_)
  · refine jj_s (pc' := 16) rfl rfl ?_
    refine jj_g rfl rfl wQ_o rfl ?_
    refine jj_s (pc' := 20) rfl rfl ?_
    refine jj_qld [] rfl rfl (by decide) (by first | assumption | omega) ?_
    refine jj_s (pc' := 22) rfl rfl ?_
    refine jj_t2 rfl rfl rfl rfl rfl (c_has (by omega)) ?_
    refine jj_zT 32 rfl rfl (fun c2 => ?_) (fun c2 => ?_)
    · refine jj_s (pc' := 34) rfl rfl ?_
      exact jj_iret rfl rfl ⟨by simp [c1, c2], rfl, rfl⟩
    · refine jj_s (pc' := 29) rfl rfl ?_
      refine jj_s (pc' := 34) rfl rfl ?_
      exact jj_iret rfl rfl ⟨by simp [c1, c2], rfl, rfl⟩
  · refine jj_s (pc' := 14) rfl rfl ?_
    exact jj_iret rfl rfl ⟨by simp [c1], rfl, rfl⟩
/-- without the edge -/
def drF (F : Nat → Nat → Int32) (p i : Nat) : Nat → Nat → Int32 := uF (uF F 11 i (F 11 i &&& (bit p ^^^ -1))) 12 i (F 12 i &&& (bit p ^^^ -1))
set_option maxHeartbeats 4000000 in
set_option maxRecDepth 100000 in
 theorem c_dropEdge {G : GC} {B n : Nat} {h : HT} {q N : Nat} {S : Nat → Int32} {F : Nat → Nat → Int32} {p i : Nat} (hi : i < 20) : CtJ G B M5_dropEdge [.ref (B + q), .int (nI p), .int (nI i)] n (wQ B q N S F h) 0 0 (eqP none n (wQ B q N S (drF F p i) h)) := by
  unfold CtJ
  refine jj_lv (lv' := [some (.ref (B + q)), some (.int (nI p)), some (.int (nI i))]) rfl ?_
  refine jj_s (pc' := 1) rfl rfl ?_
  refine jj_g rfl rfl wQ_o rfl ?_
  refine jj_s (pc' := 5) rfl rfl ?_
  refine jj_s (pc' := 6) rfl rfl ?_
  refine jj_qld [] rfl rfl (by decide) (by first | assumption | omega) ?_
  refine jj_s (pc' := 8) rfl rfl ?_
  refine jj_s (pc' := 9) rfl rfl ?_
  refine jj_s (pc' := 10) rfl rfl ?_
  refine jj_s (pc' := 11) rfl rfl ?_
  refine jj_s (pc' := 12) rfl rfl ?_
  refine jj_s (pc' := 13) rfl rfl ?_
  refine jj_qst [] rfl rfl (by decide) (by first | assumption | omega) ?_
  refine jj_s (pc' := 15) rfl rfl ?_
  refine jj_g rfl rfl wQ_o rfl ?_
  refine jj_s (pc' := 19) rfl rfl ?_
  refine jj_s (pc' := 20) rfl rfl ?_
  refine jj_qld [] rfl rfl (by decide) (by first | assumption | omega) ?_
  refine jj_s (pc' := 22) rfl rfl ?_
  refine jj_s (pc' := 23) rfl rfl ?_
  refine jj_s (pc' := 24) rfl rfl ?_
  refine jj_s (pc' := 25) rfl rfl ?_
  refine jj_s (pc' := 26) rfl rfl ?_
  refine jj_s (pc' := 27) rfl rfl ?_
  refine jj_qst [] rfl rfl (by decide) (by first | assumption | omega) ?_
  exact jj_vret rfl rfl ⟨rfl, rfl, rfl⟩
def ptF (F : Nat → Nat → Int32) (p i : Nat) (k : Int32) : Nat → Nat → Int32 := if k = 0 then uF (drF F p i) 11 i (drF F p i 11 i ||| bit p) else uF (drF F p i) 12 i (drF F p i 12 i ||| bit p)
set_option maxHeartbeats 4000000 in
set_option maxRecDepth 100000 in
 theorem c_putEdge {G : GC} {B n : Nat} {h : HT} {q N : Nat} {S : Nat → Int32} {F : Nat → Nat → Int32} {p i : Nat} (hi : i < 20) (k : Int32) : CtJ G B M5_putEdge [.ref (B + q), .int (nI p), .int (nI i), .int k] n (wQ B q N S F h) 0 0 (eqP none n (wQ B q N S (ptF F p i k) h)) := by
  unfold CtJ
  refine jj_lv (lv' := [some (.ref (B + q)), some (.int (nI p)), some (.int (nI i)), some (.int k)]) rfl ?_
  refine jj_s (pc' := 1) rfl rfl ?_
  refine jj_s (pc' := 2) rfl rfl ?_
  refine jj_s (pc' := 3) rfl rfl ?_
  refine jj_w2 rfl rfl rfl wQ_o rfl rfl (c_dropEdge hi) ?_
  refine jj_s (pc' := 7) rfl rfl ?_
  refine jj_if_ne 25 rfl rfl (fun c1 => ?_) (fun c1 => ?_)
  · refine jj_s (pc' := 26) rfl rfl ?_
    refine jj_g rfl rfl wQ_o rfl ?_
    refine jj_s (pc' := 30) rfl rfl ?_
    refine jj_s (pc' := 31) rfl rfl ?_
    refine jj_qld [] rfl rfl (by decide) (by first | assumption | omega) ?_
    refine jj_s (pc' := 33) rfl rfl ?_
    refine jj_s (pc' := 34) rfl rfl ?_
    refine jj_s (pc' := 35) rfl rfl ?_
    refine jj_s (pc' := 36) rfl rfl ?_
    refine jj_qst [] rfl rfl (by decide) (by first | assumption | omega) ?_
    exact jj_vret rfl rfl ⟨rfl, rfl, by rw [ptF, if_neg c1]; rfl⟩
  · refine jj_s (pc' := 11) rfl rfl ?_
    refine jj_g rfl rfl wQ_o rfl ?_
    refine jj_s (pc' := 15) rfl rfl ?_
    refine jj_s (pc' := 16) rfl rfl ?_
    refine jj_qld [] rfl rfl (by decide) (by first | assumption | omega) ?_
    refine jj_s (pc' := 18) rfl rfl ?_
    refine jj_s (pc' := 19) rfl rfl ?_
    refine jj_s (pc' := 20) rfl rfl ?_
    refine jj_s (pc' := 21) rfl rfl ?_
    refine jj_qst [] rfl rfl (by decide) (by first | assumption | omega) ?_
    refine jj_s (pc' := 37) rfl rfl ?_
    exact jj_vret rfl rfl ⟨rfl, rfl, by rw [ptF, if_pos c1]; rfl⟩
/-- an item comes back -/
def cbF (S : Nat → Int32) (F : Nat → Nat → Int32) (i : Nat) (p : Int32) : Nat → Nat → Int32 := if F 9 i < F 2 i then uF (uF (uF F 5 i 1) 6 i (S 1 + p)) 7 i (S 1) else uF F 5 i 6
set_option maxHeartbeats 4000000 in
set_option maxRecDepth 100000 in
 theorem c_comeBack {G : GC} {B n : Nat} {h : HT} {q N : Nat} {S : Nat → Int32} {F : Nat → Nat → Int32} {i : Nat} (hi : i < 20) (p : Int32) : CtJ G B M5_comeBack [.ref (B + q), .int (nI i), .int p] n (wQ B q N S F h) 0 0 (eqP none n (wQ B q N S (cbF S F i p) h)) := by
  unfold CtJ
  refine jj_lv (lv' := [some (.ref (B + q)), some (.int (nI i)), some (.int p)]) rfl ?_
  refine jj_s (pc' := 1) rfl rfl ?_
  refine jj_g rfl rfl wQ_o rfl ?_
  refine jj_s (pc' := 5) rfl rfl ?_
  refine jj_qld [] rfl rfl (by decide) (by first | assumption | omega) ?_
  refine jj_s (pc' := 7) rfl rfl ?_
  refine jj_g rfl rfl wQ_o rfl ?_
  refine jj_s (pc' := 11) rfl rfl ?_
  refine jj_qld [] rfl rfl (by decide) (by first | assumption | omega) ?_
  refine jj_icmp_lt 26 rfl rfl (fun c1 => ?_) (fun c1 => ?_)
  · refine jj_s (pc' := 27) rfl rfl ?_
    refine jj_s (pc' := 28) rfl rfl ?_
    refine jj_s (pc' := 29) rfl rfl ?_
    refine jj_w2 rfl rfl rfl wQ_o rfl rfl (c_makeReady hi p) ?_
    exact jj_vret rfl rfl ⟨rfl, rfl, by rw [cbF, if_pos c1]⟩
  · refine jj_s (pc' := 16) rfl rfl ?_
    refine jj_g rfl rfl wQ_o rfl ?_
    refine jj_s (pc' := 20) rfl rfl ?_
    refine jj_s (pc' := 22) rfl rfl ?_
    refine jj_qst [] rfl rfl (by decide) (by first | assumption | omega) ?_
    refine jj_s (pc' := 32) rfl rfl ?_
    exact jj_vret rfl rfl ⟨rfl, rfl, by rw [cbF, if_neg c1]; rfl⟩
/-- an item is taken out -/
def toF (S : Nat → Int32) (F : Nat → Nat → Int32) (i : Nat) (v : Int32) : Nat → Nat → Int32 := uF (uF (uF (uF F 5 i 2) 8 i (S 1 + v)) 9 i (F 9 i + 1)) 10 i (S 4 + 1)
set_option maxHeartbeats 4000000 in
set_option maxRecDepth 100000 in
 theorem c_takeOut {G : GC} {B n : Nat} {h : HT} {q N : Nat} {S : Nat → Int32} {F : Nat → Nat → Int32} {i : Nat} (hi : i < 20) (v : Int32) : CtJ G B M5_takeOut [.ref (B + q), .int (nI i), .int v] n (wQ B q N S F h) 0 0 (eqP none n (wQ B q N (upd S 4 (S 4 + 1)) (toF S F i v) h)) := by
  unfold CtJ
  refine jj_lv (lv' := [some (.ref (B + q)), some (.int (nI i)), some (.int v)]) rfl ?_
  refine jj_s (pc' := 1) rfl rfl ?_
  refine jj_s (pc' := 2) rfl rfl ?_
  refine jj_g rfl rfl wQ_o rfl ?_
  refine jj_s (pc' := 6) rfl rfl ?_
  refine jj_s (pc' := 7) rfl rfl ?_
  refine jj_qpt (N' := N) (S' := upd S 4 (S 4 + 1)) rfl rfl rfl rfl ?_
  refine jj_s (pc' := 11) rfl rfl ?_
  refine jj_g rfl rfl wQ_o rfl ?_
  refine jj_s (pc' := 15) rfl rfl ?_
  refine jj_s (pc' := 16) rfl rfl ?_
  refine jj_qst [] rfl rfl (by decide) (by first | assumption | omega) ?_
  refine jj_s (pc' := 18) rfl rfl ?_
  refine jj_g rfl rfl wQ_o rfl ?_
  refine jj_s (pc' := 22) rfl rfl ?_
  refine jj_s (pc' := 23) rfl rfl ?_
  refine jj_g rfl rfl wQ_o rfl ?_
  refine jj_s (pc' := 27) rfl rfl ?_
  refine jj_s (pc' := 28) rfl rfl ?_
  refine jj_qst [] rfl rfl (by decide) (by first | assumption | omega) ?_
  refine jj_s (pc' := 30) rfl rfl ?_
  refine jj_g rfl rfl wQ_o rfl ?_
  refine jj_s (pc' := 34) rfl rfl ?_
  refine jj_s (pc' := 35) rfl rfl ?_
  refine jj_qld [] rfl rfl (by decide) (by first | assumption | omega) ?_
  refine jj_s (pc' := 37) rfl rfl ?_
  refine jj_s (pc' := 38) rfl rfl ?_
  refine jj_qst [] rfl rfl (by decide) (by first | assumption | omega) ?_
  refine jj_s (pc' := 40) rfl rfl ?_
  refine jj_g rfl rfl wQ_o rfl ?_
  refine jj_s (pc' := 44) rfl rfl ?_
  refine jj_s (pc' := 45) rfl rfl ?_
  refine jj_g rfl rfl wQ_o rfl ?_
  refine jj_qst [] rfl rfl (by decide) (by first | assumption | omega) ?_
  exact jj_vret rfl rfl ⟨rfl, rfl, rfl⟩
/-- the rank -/
def rkF (F : Nat → Nat → Int32) (i : Nat) (r ht wt : Int32) : Int32 := if r = 1 then F 0 i * 100 + ht else if r = 2 then F 0 i * 100 + 10 * wt else F 0 i * 100
set_option maxHeartbeats 4000000 in
set_option maxRecDepth 100000 in
 theorem c_rankFor {G : GC} {B n : Nat} {h : HT} {q N : Nat} {S : Nat → Int32} {F : Nat → Nat → Int32} {i : Nat} (hi : i < 20) (r ht wt : Int32) : CtJ G B M5_rankFor [.ref (B + q), .int (nI i), .int r, .int ht, .int wt] n (wQ B q N S F h) 0 0 (eqP (some (.int (rkF F i r ht wt))) n (wQ B q N S F h)) := by
  unfold CtJ
  refine jj_lv (lv' := [some (.ref (B + q)), some (.int (nI i)), some (.int r), some (.int ht), some (.int wt), none]) rfl ?_
  refine jj_s (pc' := 1) rfl rfl ?_
  refine jj_g rfl rfl wQ_o rfl ?_
  refine jj_s (pc' := 5) rfl rfl ?_
  refine jj_qld [] rfl rfl (by decide) (by first | assumption | omega) ?_
  refine jj_s (pc' := 8) rfl rfl ?_
  refine jj_s (pc' := 9) rfl rfl ?_
  refine jj_s (pc' := 11) rfl rfl ?_
  refine jj_s (pc' := 12) rfl rfl ?_
  refine jj_s (pc' := 13) rfl rfl ?_
  refine jj_icmp_ne 22 rfl rfl (fun (c1 : ¬ r = 1) => ?_) (fun (c1 : r = 1) => ?_)
  · refine jj_s (pc' := 23) rfl rfl ?_
    refine jj_s (pc' := 24) rfl rfl ?_
    refine jj_icmp_ne 37 rfl rfl (fun (c2 : ¬ r = 2) => ?_) (fun (c2 : r = 2) => ?_)
    · refine jj_s (pc' := 39) rfl rfl ?_
      exact jj_iret rfl rfl ⟨by rw [rkF, if_neg c1, if_neg c2]; rfl, rfl, rfl⟩
    · refine jj_s (pc' := 29) rfl rfl ?_
      refine jj_s (pc' := 31) rfl rfl ?_
      refine jj_s (pc' := 33) rfl rfl ?_
      refine jj_s (pc' := 34) rfl rfl ?_
      refine jj_s (pc' := 35) rfl rfl ?_
      refine jj_s (pc' := 37) rfl rfl ?_
      refine jj_s (pc' := 39) rfl rfl ?_
      exact jj_iret rfl rfl ⟨by rw [rkF, if_neg c1, if_pos c2]; rfl, rfl, rfl⟩
  · subst c1
    refine jj_s (pc' := 18) rfl rfl ?_
    refine jj_s (pc' := 19) rfl rfl ?_
    refine jj_s (pc' := 20) rfl rfl ?_
    refine jj_s (pc' := 22) rfl rfl ?_
    refine jj_s (pc' := 23) rfl rfl ?_
    refine jj_s (pc' := 24) rfl rfl ?_
    refine jj_icmp_ne 37 rfl rfl (fun c2 => ?_) (fun c2 => ?_)
    · refine jj_s (pc' := 39) rfl rfl ?_
      exact jj_iret rfl rfl ⟨rfl, rfl, rfl⟩
    · exact absurd c2 (by decide)
def rkN (S : Nat → Int32) (F : Nat → Nat → Int32) (i : Nat) (ht : Int32) : Int32 := rkF F i (S 2) ht (if F 5 i = 1 then S 1 - F 7 i else 0)
set_option maxHeartbeats 4000000 in
set_option maxRecDepth 100000 in
 theorem c_rankNow {G : GC} {B n : Nat} {h : HT} {q N : Nat} {S : Nat → Int32} {F : Nat → Nat → Int32} {i : Nat} (hi : i < 20) (ht : Int32) : CtJ G B M5_rankNow [.ref (B + q), .int (nI i), .int ht] n (wQ B q N S F h) 0 0 (eqP (some (.int (rkN S F i ht))) n (wQ B q N S F h)) := by
  unfold CtJ
  refine jj_lv (lv' := [some (.ref (B + q)), some (.int (nI i)), some (.int ht), none]) rfl ?_
  refine jj_s (pc' := 1) rfl rfl ?_
  refine jj_g rfl rfl wQ_o rfl ?_
  refine jj_s (pc' := 5) rfl rfl ?_
  refine jj_qld [] rfl rfl (by decide) (by first | assumption | omega) ?_
  refine jj_s (pc' := 7) rfl rfl ?_
  refine jj_icmp_ne 24 rfl rfl (fun (c1 : ¬ F 5 i = 1) => ?_) (fun (c1 : F 5 i = 1) => ?_)
  · refine jj_s (pc' := 25) rfl rfl ?_
    refine jj_s (pc' := 26) rfl rfl ?_
    refine jj_s (pc' := 27) rfl rfl ?_
    refine jj_s (pc' := 28) rfl rfl ?_
    refine jj_s (pc' := 29) rfl rfl ?_
    refine jj_g rfl rfl wQ_o rfl ?_
    refine jj_s (pc' := 33) rfl rfl ?_
    refine jj_s (pc' := 34) rfl rfl ?_
    refine jj_v4 rfl rfl rfl wQ_o rfl rfl (c_rankFor hi _ _ _) ?_
    exact jj_iret rfl rfl ⟨by rw [rkN, if_neg c1]; rfl, rfl, rfl⟩
  · refine jj_s (pc' := 11) rfl rfl ?_
    refine jj_g rfl rfl wQ_o rfl ?_
    refine jj_s (pc' := 15) rfl rfl ?_
    refine jj_g rfl rfl wQ_o rfl ?_
    refine jj_s (pc' := 19) rfl rfl ?_
    refine jj_qld [] rfl rfl (by decide) (by first | assumption | omega) ?_
    refine jj_s (pc' := 21) rfl rfl ?_
    refine jj_s (pc' := 25) rfl rfl ?_
    refine jj_s (pc' := 26) rfl rfl ?_
    refine jj_s (pc' := 27) rfl rfl ?_
    refine jj_s (pc' := 28) rfl rfl ?_
    refine jj_s (pc' := 29) rfl rfl ?_
    refine jj_g rfl rfl wQ_o rfl ?_
    refine jj_s (pc' := 33) rfl rfl ?_
    refine jj_s (pc' := 34) rfl rfl ?_
    refine jj_v4 rfl rfl rfl wQ_o rfl rfl (c_rankFor hi _ _ _) ?_
    exact jj_iret rfl rfl ⟨by rw [rkN, if_pos c1], rfl, rfl⟩
