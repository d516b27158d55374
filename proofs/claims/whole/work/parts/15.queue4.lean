/-! copying a row -/
theorem jj_copy {X : State → Prop} {G : GC} {B : Nat} {y : MT} {pc : Nat} {lv : List (Option Value)} {st : List Value} {n : Nat} {h : HT} {kc ks : Nat} {post : Option Value → Nat → HT → Prop} {idx a0 a1 : Nat} {f g : Nat → Int32} (hd : lk (M_tb y) pc = some (.invokestatic idx)) (hl : Cond.methodLink (M_nm y).cls idx arraycopyName ∈ tW) (w1 : Cond.native arraycopyName ∈ tW) (w2 : Cond.static arraycopyName ∈ tW) (w3 : Cond.initialized "java/lang/System" ∈ tW) (hc0 : h a0 = some (ia 20 f)) (hc1 : h a1 = some (ia 20 g)) (hf1 : 1 ≤ M_fr y) (hf2 : (st.map fun v => v.category).sum + 18 ≤ M_lo y) (K : JJ X G B y (pc + 3) lv st n (hu h a1 (ia 20 (va_cpy f g 0 0 20))) kc ks post) : JJ X G B y pc lv (.int 20 :: .int 0 :: .ref (B + a1) :: .int 0 :: .ref (B + a0) :: st) n h kc ks post := by
  intro p l e R s m args below meth c H locs cells slots ls mc ms C P S L k1 k2 k3 k4
  have C0 := C
  obtain ⟨hx, hb, hr, hml, hown, hts, hlk, hnm, hK, hB, hfr, hlo, hT, hXW, hX, hCO, ho⟩ := C
  have he0 := wd_get (G := G) (B := B) (P.2.2.lt hc0) hc0
  have he1 := wd_get (G := G) (B := B) (P.2.2.lt hc1) hc1
  intro T hT0 X1
  have q0 : H[B + a0]? = some (vp_cell G.2.1 (20, .inl f)) := P.1 a0 _ he0
  have q1 : H[B + a1]? = some (vp_cell G.2.1 (20, .inl g)) := P.1 a1 _ he1
  obtain ⟨-, k0, hk0, cm0, hkk0⟩ := (hK.2 0 _ rfl).1 20 (fun j => .int (f j))
  obtain ⟨-, k1', hk1, cm1, hkk1⟩ := (hK.2 0 _ rfl).1 20 (fun j => .int (g j))
  obtain ⟨vm', X', step⟩ := X1.arraycopy hx hown (hts _ hl) (hts _ w1) (hts _ w2) (hts _ w3) (src := B + a0) (dst := B + a1) (cs := vp_cell G.2.1 (20, .inl f)) (cd := vp_cell G.2.1 (20, .inl g)) (srcPos := 0) (destPos := 0) (n := 20) (by rw [hT0]; exact q0) (by rw [hT0]; exact q1)
    (fun _ h => by cases h) (fun _ h => by cases h) (fun h => by cases h) (fun h => by cases h) hk0 hk1 hkk0 hkk1 rfl (by decide) (by decide) (by decide)
    (by show ¬ _ > ((arrV G.2.1 20 (fun j => .int (f j))).slots.size : Int); rw [arrV_size]; decide)
    (by show ¬ _ > ((arrV G.2.1 20 (fun j => .int (g j))).slots.size : Int); rw [arrV_size]; decide)
    (fun vm₁ _ i hi => by
      have hi : i < 20 := hi
      have ee : (vp_cell G.2.1 (20, .inl f)).slots.getD ((0 : Int32).toNatClampNeg + i) .null = .int (f i) := by
        show (arrV G.2.1 20 (fun j => .int (f j))).slots.getD _ _ = _
        rw [Array.getD_eq_getD_getElem?, show (0 : Int32).toNatClampNeg + i = i from Nat.zero_add i, arrV_read _ _ hi]
        rfl
      refine ⟨?_, ?_⟩
      · rw [ee]; rfl
      · rw [ee]; exact trivial)
    (g := F0 m pc ls (.int 20 :: .int 0 :: .ref (B + a1) :: .int 0 :: .ref (B + a0) :: st)) rfl (by rw [hml]; exact L.1) (rest := st) rfl (by rw [hb]; exact hT.at hd rfl) (Nat.le_trans hf1 hfr) (by show 2 * 0 + _ + (nativeFrameWords "java/lang/System" "arraycopy" 5 + 11) ≤ _; rw [show nativeFrameWords "java/lang/System" "arraycopy" 5 = 7 from by decide]; omega)
  have e1 : copied (vp_cell G.2.1 (20, .inl f)) (vp_cell G.2.1 (20, .inl g)) 0 0 20 = vp_cell G.2.1 (20, .inl (va_cpy f g 0 0 20)) := va_copied (fun z => .int z) G.2.1 G.2.1 f g (sp := 0) (dp := 0) (n := 20) (Nat.le_refl 20)
  rw [e1] at X' step
  have hl' : B + a1 < H.size := (Array.getElem?_eq_some_iff.mp q1).1
  have hheap : ((T.setVm vm').setCell (B + a1) (vp_cell G.2.1 (20, .inl (va_cpy f g 0 0 20)))).heap = H.setIfInBounds (B + a1) (vp_cell G.2.1 (20, .inl (va_cpy f g 0 0 20))) := by rw [← hT0]; rfl
  have oq : ∀ q : Nat, q ≠ B + a1 → (H.setIfInBounds (B + a1) (vp_cell G.2.1 (20, .inl (va_cpy f g 0 0 20))))[q]? = H[q]? := fun q hq => by simp [Array.getElem?_setIfInBounds, Ne.symm hq]
  have hP' := P.1.set (e := cvE G (ia 20 (va_cpy f g 0 0 20))) wd_D he1 (show (H.setIfInBounds (B + a1) _)[B + a1]? = some _ by simp [Array.getElem?_setIfInBounds, hl']) oq
  obtain ⟨t, a1', b1⟩ := K p l e R s m args below meth c _ _ cells slots ls mc ms C0 ⟨by rw [← wd_set]; exact hP', by simp; exact P.2.1, P.2.2.set hc1⟩ ⟨by simp; exact S.1, fun q g1 g2 => by
      rw [oq q (fun e => g2 (by omega))]
      exact S.2.1 q g1 g2, fun q hq => by
      rcases List.mem_append.mp hq with h | h
      · exact S.2.2 q h
      · obtain ⟨z, -, hz⟩ := List.mem_map.mp h
        rw [← hz]
        exact Nat.le_add_right _ _⟩ L k1 k2 k3 k4 _ hheap X'
  exact ⟨t, step t a1', b1⟩
theorem tw_acl : Cond.methodLink RX5 140 arraycopyName ∈ tW := tm3 229 rfl rfl
theorem tw_acn : Cond.native arraycopyName ∈ tW := tm3 231 rfl rfl
theorem tw_acs : Cond.static arraycopyName ∈ tW := tm3 230 rfl rfl
theorem tw_aci : Cond.initialized "java/lang/System" ∈ tW := tm1 13 rfl rfl
/-- the first twenty of one row, then the other -/
abbrev cp (f g : Nat → Int32) : Nat → Int32 := va_cpy f g 0 0 20
theorem cp_lt (f g : Nat → Int32) {i : Nat} (h : i < 20) : cp f g i = f i := by
  unfold cp va_cpy
  rw [if_pos ⟨Nat.zero_le _, by omega⟩]
  congr 1
  omega
set_option maxHeartbeats 4000000 in
set_option maxRecDepth 100000 in
 theorem c_copyRow {G : GC} {B n : Nat} {h : HT} {a0 a1 : Nat} {f g : Nat → Int32} (hc0 : h a0 = some (ia 20 f)) (hc1 : h a1 = some (ia 20 g)) : CtJ G B M5_copyRow [.ref (B + a0), .ref (B + a1)] n h 0 0 (eqP none n (hu h a1 (ia 20 (cp f g)))) := by
  unfold CtJ
  refine jj_lv (lv' := [some (.ref (B + a0)), some (.ref (B + a1))]) rfl ?_
  refine jj_s (pc' := 1) rfl rfl ?_
  refine jj_s (pc' := 2) rfl rfl ?_
  refine jj_s (pc' := 3) rfl rfl ?_
  refine jj_s (pc' := 4) rfl rfl ?_
  refine jj_s (pc' := 6) rfl rfl ?_
  refine jj_copy rfl tw_acl tw_acn tw_acs tw_aci hc0 hc1 (by decide) (by decide) ?_
  exact jj_vret rfl rfl ⟨rfl, rfl, rfl⟩
theorem wQ_row {B q N : Nat} {S : Nat → Int32} {F : Nat → Nat → Int32} {h : HT} {j : Nat} {f : Nat → Int32} (hj : j < 13) : hu (wQ B q N S F h) (q + (j + 1)) (ia 20 f) = wQ B q N S (upF F j f) h := by
  funext k
  by_cases hk : k = q + (j + 1)
  · subst hk
    rw [hu_s, wQ_a hj]
    simp [upF]
  · rw [hu_n _ _ _ hk]
    unfold wQ
    split
    next => rfl
    next h1 =>
      split
      next h2 => rw [upF, if_neg (by omega)]
      next => rfl
theorem wQ_ext {B q N : Nat} {S : Nat → Int32} {F F' : Nat → Nat → Int32} {h : HT} (e : ∀ j, j < 13 → F j = F' j) : wQ B q N S F h = wQ B q N S F' h := by
  funext k
  unfold wQ
  split
  next => rfl
  next =>
    split
    next h2 => rw [e _ (by omega)]
    next => rfl
/-- the first j rows copied -/
def cpK (F2 F : Nat → Nat → Int32) (j : Nat) : Nat → Nat → Int32 := fun a => if a < j then cp (F2 a) (F a) else F a
theorem cpK_s (F2 F : Nat → Nat → Int32) (j : Nat) : upF (cpK F2 F j) j (cp (F2 j) (F j)) = cpK F2 F (j + 1) := by
  funext a
  unfold upF cpK
  by_cases h : a = j
  · subst h; simp
  · rw [if_neg h]
    by_cases h2 : a < j
    · rw [if_pos h2, if_pos (by omega)]
    · rw [if_neg h2, if_neg (by omega)]
theorem c_cpRow {G : GC} {B n : Nat} {h : HT} {q N : Nat} {S : Nat → Int32} {F : Nat → Nat → Int32} {q2 : Nat} {F2 : Nat → Nat → Int32} (j : Nat) (hj : j < 13) (ha : wQ B q N S (cpK F2 F j) h (q2 + (j + 1)) = some (ia 20 (F2 j))) : CtJ G B M5_copyRow [.ref (B + (q2 + (j + 1))), .ref (B + (q + (j + 1)))] n (wQ B q N S (cpK F2 F j) h) 0 0 (eqP none n (wQ B q N S (cpK F2 F (j + 1)) h)) := by
  have h1 := c_copyRow (G := G) (B := B) (n := n) ha (wQ_a hj)
  rw [wQ_row hj, show cpK F2 F j j = F j by simp [cpK], cpK_s] at h1
  exact h1
set_option maxHeartbeats 4000000 in
set_option maxRecDepth 100000 in
 theorem c_copyItems {G : GC} {B n : Nat} {h : HT} {q N : Nat} {S : Nat → Int32} {F : Nat → Nat → Int32} {q2 N2 : Nat} {S2 : Nat → Int32} {F2 : Nat → Nat → Int32} (hd : q2 + 14 ≤ q ∨ q + 14 ≤ q2) (hO : h q2 = some (ob 5 (qobj B q2 N2 S2))) (hA : ∀ j, j < 13 → h (q2 + (j + 1)) = some (ia 20 (F2 j))) : CtJ G B M5_copyItems [.ref (B + q), .ref (B + q2)] n (wQ B q N S F h) 0 0 (eqP none n (wQ B q N2 S (fun j => cp (F2 j) (F j)) h)) := by
  have o2 : ∀ (N : Nat) (S : Nat → Int32) (F : Nat → Nat → Int32), wQ B q N S F h q2 = some (ob 5 (qobj B q2 N2 S2)) := fun N S F => (wQ_n (by omega)).trans hO
  have a2 : ∀ (N : Nat) (S : Nat → Int32) (F : Nat → Nat → Int32) (j : Nat), j < 13 → wQ B q N S F h (q2 + (j + 1)) = some (ia 20 (F2 j)) := fun N S F j hj => (wQ_n (by omega)).trans (hA j hj)
  unfold CtJ
  refine jj_lv (lv' := [some (.ref (B + q)), some (.ref (B + q2))]) rfl ?_
  refine jj_s (pc' := 1) rfl rfl ?_
  refine jj_s (pc' := 2) rfl rfl ?_
  refine jj_g rfl rfl (o2 _ _ _) rfl ?_
  refine jj_qpt (N' := N2) (S' := S) rfl rfl rfl rfl ?_
  refine jj_h (h' := wQ B q N2 S (cpK F2 F 0) h) (wQ_ext (fun a _ => by simp [cpK])) ?_
  refine jj_s (pc' := 9) rfl rfl ?_
  refine jj_g rfl rfl (o2 _ _ _) rfl ?_
  refine jj_s (pc' := 13) rfl rfl ?_
  refine jj_g rfl rfl wQ_o rfl ?_
  refine jj_u2 (h' := wQ B q N2 S (cpK F2 F 1) h) rfl rfl rfl rfl rfl (c_cpRow 0 (by decide) (a2 _ _ _ 0 (by decide))) ?_
  refine jj_s (pc' := 20) rfl rfl ?_
  refine jj_g rfl rfl (o2 _ _ _) rfl ?_
  refine jj_s (pc' := 24) rfl rfl ?_
  refine jj_g rfl rfl wQ_o rfl ?_
  refine jj_u2 (h' := wQ B q N2 S (cpK F2 F 2) h) rfl rfl rfl rfl rfl (c_cpRow 1 (by decide) (a2 _ _ _ 1 (by decide))) ?_
  refine jj_s (pc' := 31) rfl rfl ?_
  refine jj_g rfl rfl (o2 _ _ _) rfl ?_
  refine jj_s (pc' := 35) rfl rfl ?_
  refine jj_g rfl rfl wQ_o rfl ?_
  refine jj_u2 (h' := wQ B q N2 S (cpK F2 F 3) h) rfl rfl rfl rfl rfl (c_cpRow 2 (by decide) (a2 _ _ _ 2 (by decide))) ?_
  refine jj_s (pc' := 42) rfl rfl ?_
  refine jj_g rfl rfl (o2 _ _ _) rfl ?_
  refine jj_s (pc' := 46) rfl rfl ?_
  refine jj_g rfl rfl wQ_o rfl ?_
  refine jj_u2 (h' := wQ B q N2 S (cpK F2 F 4) h) rfl rfl rfl rfl rfl (c_cpRow 3 (by decide) (a2 _ _ _ 3 (by decide))) ?_
  refine jj_s (pc' := 53) rfl rfl ?_
  refine jj_g rfl rfl (o2 _ _ _) rfl ?_
  refine jj_s (pc' := 57) rfl rfl ?_
  refine jj_g rfl rfl wQ_o rfl ?_
  refine jj_u2 (h' := wQ B q N2 S (cpK F2 F 5) h) rfl rfl rfl rfl rfl (c_cpRow 4 (by decide) (a2 _ _ _ 4 (by decide))) ?_
  refine jj_s (pc' := 64) rfl rfl ?_
  refine jj_g rfl rfl (o2 _ _ _) rfl ?_
  refine jj_s (pc' := 68) rfl rfl ?_
  refine jj_g rfl rfl wQ_o rfl ?_
  refine jj_u2 (h' := wQ B q N2 S (cpK F2 F 6) h) rfl rfl rfl rfl rfl (c_cpRow 5 (by decide) (a2 _ _ _ 5 (by decide))) ?_
  refine jj_s (pc' := 75) rfl rfl ?_
  refine jj_g rfl rfl (o2 _ _ _) rfl ?_
  refine jj_s (pc' := 79) rfl rfl ?_
  refine jj_g rfl rfl wQ_o rfl ?_
  refine jj_u2 (h' := wQ B q N2 S (cpK F2 F 7) h) rfl rfl rfl rfl rfl (c_cpRow 6 (by decide) (a2 _ _ _ 6 (by decide))) ?_
  refine jj_s (pc' := 86) rfl rfl ?_
  refine jj_g rfl rfl (o2 _ _ _) rfl ?_
  refine jj_s (pc' := 90) rfl rfl ?_
  refine jj_g rfl rfl wQ_o rfl ?_
  refine jj_u2 (h' := wQ B q N2 S (cpK F2 F 8) h) rfl rfl rfl rfl rfl (c_cpRow 7 (by decide) (a2 _ _ _ 7 (by decide))) ?_
  refine jj_s (pc' := 97) rfl rfl ?_
  refine jj_g rfl rfl (o2 _ _ _) rfl ?_
  refine jj_s (pc' := 101) rfl rfl ?_
  refine jj_g rfl rfl wQ_o rfl ?_
  refine jj_u2 (h' := wQ B q N2 S (cpK F2 F 9) h) rfl rfl rfl rfl rfl (c_cpRow 8 (by decide) (a2 _ _ _ 8 (by decide))) ?_
  refine jj_s (pc' := 108) rfl rfl ?_
  refine jj_g rfl rfl (o2 _ _ _) rfl ?_
  refine jj_s (pc' := 112) rfl rfl ?_
  refine jj_g rfl rfl wQ_o rfl ?_
  refine jj_u2 (h' := wQ B q N2 S (cpK F2 F 10) h) rfl rfl rfl rfl rfl (c_cpRow 9 (by decide) (a2 _ _ _ 9 (by decide))) ?_
  refine jj_s (pc' := 119) rfl rfl ?_
  refine jj_g rfl rfl (o2 _ _ _) rfl ?_
  refine jj_s (pc' := 123) rfl rfl ?_
  refine jj_g rfl rfl wQ_o rfl ?_
  refine jj_u2 (h' := wQ B q N2 S (cpK F2 F 11) h) rfl rfl rfl rfl rfl (c_cpRow 10 (by decide) (a2 _ _ _ 10 (by decide))) ?_
  refine jj_s (pc' := 130) rfl rfl ?_
  refine jj_g rfl rfl (o2 _ _ _) rfl ?_
  refine jj_s (pc' := 134) rfl rfl ?_
  refine jj_g rfl rfl wQ_o rfl ?_
  refine jj_u2 (h' := wQ B q N2 S (cpK F2 F 12) h) rfl rfl rfl rfl rfl (c_cpRow 11 (by decide) (a2 _ _ _ 11 (by decide))) ?_
  refine jj_s (pc' := 141) rfl rfl ?_
  refine jj_g rfl rfl (o2 _ _ _) rfl ?_
  refine jj_s (pc' := 145) rfl rfl ?_
  refine jj_g rfl rfl wQ_o rfl ?_
  refine jj_u2 (h' := wQ B q N2 S (cpK F2 F 13) h) rfl rfl rfl rfl rfl (c_cpRow 12 (by decide) (a2 _ _ _ 12 (by decide))) ?_
  exact jj_vret rfl rfl ⟨rfl, rfl, wQ_ext (fun j hj => by simp [cpK, hj])⟩
set_option maxHeartbeats 4000000 in
set_option maxRecDepth 100000 in
 theorem c_copyAll {G : GC} {B n : Nat} {h : HT} {q N : Nat} {S : Nat → Int32} {F : Nat → Nat → Int32} {q2 N2 : Nat} {S2 : Nat → Int32} {F2 : Nat → Nat → Int32} (hd : q2 + 14 ≤ q ∨ q + 14 ≤ q2) (hO : h q2 = some (ob 5 (qobj B q2 N2 S2))) (hA : ∀ j, j < 13 → h (q2 + (j + 1)) = some (ia 20 (F2 j))) : CtJ G B M5_copyAll [.ref (B + q), .ref (B + q2)] n (wQ B q N S F h) 0 0 (eqP none n (wQ B q N2 S2 (fun j => cp (F2 j) (F j)) h)) := by
  have o2 : ∀ (N : Nat) (S : Nat → Int32) (F : Nat → Nat → Int32), wQ B q N S F h q2 = some (ob 5 (qobj B q2 N2 S2)) := fun N S F => (wQ_n (by omega)).trans hO
  unfold CtJ
  refine jj_lv (lv' := [some (.ref (B + q)), some (.ref (B + q2))]) rfl ?_
  refine jj_s (pc' := 1) rfl rfl ?_
  refine jj_s (pc' := 2) rfl rfl ?_
  refine jj_w1 rfl rfl rfl wQ_o rfl rfl (c_copyItems hd hO hA) ?_
  refine jj_s (pc' := 6) rfl rfl ?_
  refine jj_s (pc' := 7) rfl rfl ?_
  refine jj_g rfl rfl (o2 _ _ _) rfl ?_
  refine jj_qpt (N' := N2) (S' := upd S 1 (S2 1)) rfl rfl rfl rfl ?_
  refine jj_s (pc' := 14) rfl rfl ?_
  refine jj_s (pc' := 15) rfl rfl ?_
  refine jj_g rfl rfl (o2 _ _ _) rfl ?_
  refine jj_qpt (N' := N2) (S' := upd (upd S 1 (S2 1)) 2 (S2 2)) rfl rfl rfl rfl ?_
  refine jj_s (pc' := 22) rfl rfl ?_
  refine jj_s (pc' := 23) rfl rfl ?_
  refine jj_g rfl rfl (o2 _ _ _) rfl ?_
  refine jj_qpt (N' := N2) (S' := upd (upd (upd S 1 (S2 1)) 2 (S2 2)) 3 (S2 3)) rfl rfl rfl rfl ?_
  refine jj_s (pc' := 30) rfl rfl ?_
  refine jj_s (pc' := 31) rfl rfl ?_
  refine jj_g rfl rfl (o2 _ _ _) rfl ?_
  refine jj_qpt (N' := N2) (S' := S2) rfl rfl rfl rfl ?_
  exact jj_vret rfl rfl ⟨rfl, rfl, rfl⟩
set_option maxHeartbeats 4000000 in
set_option maxRecDepth 100000 in
 theorem c_endAs_open {G : GC} {B n : Nat} {h : HT} {q N : Nat} {S : Nat → Int32} {F : Nat → Nat → Int32} (hN : N ≤ 20) {i : Nat} (hi : i < 20) (e w : Int32) (bc : Int32 → Int32) (hbc : ∀ (x : Int32) (n : Nat) (h : HT), CtJ G B M6_bitCount_0f7a4 [.int x] n h 0 0 (eqP (some (.int (bc x))) n h)) : CtJ G B M5_endAs [.ref (B + q), .int (nI i), .int e, .int w] n (wQ B q N S F h) 0 0 (eqP (some (.int (bc (msk (fun j => decide (stl S N 1000 (uF F 5 i e) 5 j = w)) N &&& (msk (fun j => decide (F 5 j = w)) N ^^^ -1))))) n (wQ B q N S (stl S N 1000 (uF F 5 i e)) h)) := by
  unfold CtJ
  refine jj_lv (lv' := [some (.ref (B + q)), some (.int (nI i)), some (.int e), some (.int w), none]) rfl ?_
  refine jj_s (pc' := 1) rfl rfl ?_
  refine jj_s (pc' := 2) rfl rfl ?_
  refine jj_v1 rfl rfl rfl wQ_o rfl rfl (c_setIn hN _) ?_
  refine jj_s (pc' := 7) rfl rfl ?_
  refine jj_s (pc' := 8) rfl rfl ?_
  refine jj_g rfl rfl wQ_o rfl ?_
  refine jj_s (pc' := 12) rfl rfl ?_
  refine jj_s (pc' := 13) rfl rfl ?_
  refine jj_qst [] rfl rfl (by decide) (by first | assumption | omega) ?_
  refine jj_s (pc' := 15) rfl rfl ?_
  refine jj_w0 rfl rfl rfl wQ_o rfl rfl (c_settle hN) ?_
  refine jj_s (pc' := 19) rfl rfl ?_
  refine jj_s (pc' := 20) rfl rfl ?_
  refine jj_v1 rfl rfl rfl wQ_o rfl rfl (c_setIn hN _) ?_
  refine jj_s (pc' := 25) rfl rfl ?_
  refine jj_s (pc' := 26) rfl rfl ?_
  refine jj_s (pc' := 27) rfl rfl ?_
  refine jj_s (pc' := 28) rfl rfl ?_
  refine jj_t1 rfl rfl rfl rfl rfl (hbc _ _ _) ?_
  exact jj_iret rfl rfl ⟨rfl, rfl, rfl⟩
/-- those whose deadline has come return, the first k looked at -/
def ptk (S : Nat → Int32) (F : Nat → Nat → Int32) : Nat → (Nat → Nat → Int32) × Nat
  | 0 => (F, 0)
  | k + 1 => if (ptk S F k).1 5 k = 2 ∧ (ptk S F k).1 8 k ≤ S 1 then (cbF S (ptk S F k).1 k 0, (ptk S F k).2 + 1) else ptk S F k
theorem ptk_le (S : Nat → Int32) (F : Nat → Nat → Int32) (k : Nat) : (ptk S F k).2 ≤ k := by
  induction k with
  | zero => exact Nat.le_refl _
  | succ k ih =>
    unfold ptk
    split
    next => show (ptk S F k).2 + 1 ≤ k + 1; omega
    next => omega
/-- one tick: the time has been counted already -/
def tck (S : Nat → Int32) (N : Nat) (F : Nat → Nat → Int32) : Nat → Nat → Int32 := if 0 < (ptk S F N).2 then stl S N 1000 (ptk S F N).1 else (ptk S F N).1
set_option maxHeartbeats 4000000 in
set_option maxRecDepth 100000 in
 theorem c_passTick {G : GC} {B n : Nat} {h : HT} {q N : Nat} {S : Nat → Int32} {F : Nat → Nat → Int32} (hN : N ≤ 20) : CtJ G B M5_passTick [.ref (B + q)] n (wQ B q N S F h) 0 0 (eqP (some (.int (nI (ptk (upd S 1 (S 1 + 1)) F N).2))) n (wQ B q N (upd S 1 (S 1 + 1)) (tck (upd S 1 (S 1 + 1)) N F) h)) := by
  unfold CtJ
  refine jj_lv (lv' := [some (.ref (B + q)), none, none]) rfl ?_
  refine jj_s (pc' := 1) rfl rfl ?_
  refine jj_s (pc' := 2) rfl rfl ?_
  refine jj_g rfl rfl wQ_o rfl ?_
  refine jj_s (pc' := 6) rfl rfl ?_
  refine jj_s (pc' := 7) rfl rfl ?_
  refine jj_qpt (N' := N) (S' := upd S 1 (S 1 + 1)) rfl rfl rfl rfl ?_
  generalize upd S 1 (S 1 + 1) = S
  refine jj_s (pc' := 11) rfl rfl ?_
  refine jj_s (pc' := 12) rfl rfl ?_
  refine jj_s (pc' := 13) rfl rfl ?_
  refine jj_s (pc' := 14) rfl rfl ?_
  have L : ∀ d k, k ≤ N → N + 1 ≤ k + d → JJ X0 G B M5_passTick 14 [some (.ref (B + q)), some (.int (nI (ptk S F k).2)), some (.int (nI k))] [] n (wQ B q N S (ptk S F k).1 h) 0 0 (eqP (some (.int (nI (ptk S F N).2))) n (wQ B q N S (tck S N F) h)) := by
    intro d
    induction d with
    | zero => intro k h1 h2; exact absurd h2 (by omega)
    | succ d ih =>
      intro k h1 h2
      refine jj_s (pc' := 15) rfl rfl ?_
      refine jj_s (pc' := 16) rfl rfl ?_
      refine jj_g rfl rfl wQ_o rfl ?_
      refine jj_geN 60 rfl rfl (by omega) (by omega) (fun c => ?_) (fun c => ?_)
      · have hk : k = N := by omega
        subst hk
        have hle := ptk_le S F k
        refine jj_s (pc' := 61) rfl rfl ?_
        refine jj_if_le 68 rfl rfl (fun c2 => ?_) (fun c2 => ?_)
        · have h0 : ¬ 0 < (ptk S F k).2 := fun z => nI_nle z (by omega) c2
          refine jj_s (pc' := 69) rfl rfl ?_
          exact jj_iret rfl rfl ⟨rfl, rfl, by rw [tck, if_neg h0]⟩
        · have h0 : 0 < (ptk S F k).2 := Nat.pos_of_ne_zero (fun z => c2 (by rw [z]; decide))
          refine jj_s (pc' := 65) rfl rfl ?_
          refine jj_w0 rfl rfl rfl wQ_o rfl rfl (c_settle hN) ?_
          refine jj_s (pc' := 69) rfl rfl ?_
          exact jj_iret rfl rfl ⟨rfl, rfl, by rw [tck, if_pos h0]⟩
      · refine jj_s (pc' := 23) rfl rfl ?_
        refine jj_g rfl rfl wQ_o rfl ?_
        refine jj_s (pc' := 27) rfl rfl ?_
        refine jj_qld [] rfl rfl (by decide) (by first | assumption | omega) ?_
        refine jj_s (pc' := 29) rfl rfl ?_
        refine jj_icmp_ne 54 rfl rfl (fun (c2 : ¬ (ptk S F k).1 5 k = 2) => ?_) (fun (c2 : (ptk S F k).1 5 k = 2) => ?_)
        · have e : ptk S F (k + 1) = ptk S F k := by rw [ptk, if_neg (fun z => c2 z.1)]
          first | refine jj_inc rfl rfl ?_ | refine jj_s (pc' := 57) rfl rfl ?_
          refine jj_s (pc' := 14) rfl rfl ?_
          refine jj_lv ?_ (jj_h ?_ (ih (k + 1) (by omega) (by omega)))
          · rw [e]; rfl
          · rw [e]
        · refine jj_s (pc' := 33) rfl rfl ?_
          refine jj_g rfl rfl wQ_o rfl ?_
          refine jj_s (pc' := 37) rfl rfl ?_
          refine jj_qld [] rfl rfl (by decide) (by first | assumption | omega) ?_
          refine jj_s (pc' := 39) rfl rfl ?_
          refine jj_g rfl rfl wQ_o rfl ?_
          refine jj_icmp_gt 54 rfl rfl (fun c3 => ?_) (fun c3 => ?_)
          · have e : ptk S F (k + 1) = ptk S F k := by rw [ptk, if_neg (fun z => Int32.not_le.mpr c3 z.2)]
            first | refine jj_inc rfl rfl ?_ | refine jj_s (pc' := 57) rfl rfl ?_
            refine jj_s (pc' := 14) rfl rfl ?_
            refine jj_lv ?_ (jj_h ?_ (ih (k + 1) (by omega) (by omega)))
            · rw [e]; rfl
            · rw [e]
          · have e : ptk S F (k + 1) = (cbF S (ptk S F k).1 k 0, (ptk S F k).2 + 1) := by rw [ptk, if_pos ⟨c2, Int32.not_lt.mp c3⟩]
            refine jj_s (pc' := 46) rfl rfl ?_
            refine jj_s (pc' := 47) rfl rfl ?_
            refine jj_s (pc' := 48) rfl rfl ?_
            refine jj_w2 rfl rfl rfl wQ_o rfl rfl (c_comeBack (by omega) _) ?_
            first | refine jj_inc rfl rfl ?_ | refine jj_s (pc' := 54) rfl rfl ?_
            first | refine jj_inc rfl rfl ?_ | refine jj_s (pc' := 57) rfl rfl ?_
            refine jj_s (pc' := 14) rfl rfl ?_
            refine jj_lv ?_ (jj_h ?_ (ih (k + 1) (by omega) (by omega)))
            · rw [e]; rfl
            · rw [e]; rfl
  exact L (N + 1) 0 (by omega) (by omega)
/-- what an item would doom: one pass over the first k, and passes -/
def dpk (F : Nat → Nat → Int32) (l : Int32) : Nat → Int32 × Bool
  | 0 => (l, false)
  | k + 1 => if (F 5 k = 0 ∨ F 5 k = 1) ∧ bt (dpk F l k).1 k = false ∧ ¬ F 11 k &&& (dpk F l k).1 = 0 then ((dpk F l k).1 ||| bit k, true) else dpk F l k
def dmk (F : Nat → Nat → Int32) (N : Nat) : Nat → Int32 → Int32
  | 0, l => l
  | m + 1, l => if (dpk F l N).2 = true then dmk F N m (dpk F l N).1 else (dpk F l N).1
set_option maxHeartbeats 4000000 in
set_option maxRecDepth 100000 in
 theorem c_doomedBy {G : GC} {B n : Nat} {h : HT} {q N : Nat} {S : Nat → Int32} {F : Nat → Nat → Int32} (hN : N ≤ 20) {i : Nat} (hi : i < 20) : CtJ G B M5_doomedBy [.ref (B + q), .int (nI i)] n (wQ B q N S F h) 0 0 (eqP (some (.int (dmk F N 1000 (bit i) &&& (bit i ^^^ -1)))) n (wQ B q N S F h)) := by
  unfold CtJ
  refine jj_lv (lv' := [some (.ref (B + q)), some (.int (nI i)), none, none, none, none]) rfl ?_
  refine jj_s (pc' := 1) rfl rfl ?_
  refine jj_s (pc' := 2) rfl rfl ?_
  refine jj_s (pc' := 3) rfl rfl ?_
  refine jj_s (pc' := 4) rfl rfl ?_
  refine jj_s (pc' := 5) rfl rfl ?_
  refine jj_s (pc' := 6) rfl rfl ?_
  refine jj_s (pc' := 7) rfl rfl ?_
  refine jj_s (pc' := 9) rfl rfl ?_
  have L : ∀ m l z, m ≤ 1000 → JJ X0 G B M5_doomedBy 9 [some (.ref (B + q)), some (.int (nI i)), some (.int l), some (.int 1), some (.int (nI (1000 - m))), z] [] n (wQ B q N S F h) 0 0 (eqP (some (.int (dmk F N m l &&& (bit i ^^^ -1)))) n (wQ B q N S F h)) := by
    intro m
    induction m with
    | zero =>
      intro l z h0
      refine jj_s (pc' := 10) rfl rfl ?_
      refine jj_if_eq 86 rfl rfl (fun c => absurd c (by decide)) (fun c => ?_)
      refine jj_s (pc' := 15) rfl rfl ?_
      refine jj_s (pc' := 18) rfl rfl ?_
      refine jj_icmp_ge 86 rfl rfl (fun c => ?_) (fun c => absurd (by decide) c)
      refine jj_s (pc' := 87) rfl rfl ?_
      refine jj_s (pc' := 88) rfl rfl ?_
      refine jj_s (pc' := 89) rfl rfl ?_
      refine jj_s (pc' := 90) rfl rfl ?_
      refine jj_s (pc' := 91) rfl rfl ?_
      refine jj_s (pc' := 92) rfl rfl ?_
      refine jj_s (pc' := 93) rfl rfl ?_
      exact jj_iret rfl rfl ⟨rfl, rfl, rfl⟩
    | succ m ihm =>
      intro l z h0
      refine jj_s (pc' := 10) rfl rfl ?_
      refine jj_if_eq 86 rfl rfl (fun c => absurd c (by decide)) (fun c => ?_)
      refine jj_s (pc' := 15) rfl rfl ?_
      refine jj_s (pc' := 18) rfl rfl ?_
      refine jj_icmp_ge 86 rfl rfl (fun c => absurd ((nI_leI (a := 1000) (b := 1000 - (m + 1)) (by omega) (by omega)).mp c) (by omega)) (fun c => ?_)
      refine jj_s (pc' := 22) rfl rfl ?_
      refine jj_s (pc' := 23) rfl rfl ?_
      refine jj_s (pc' := 24) rfl rfl ?_
      refine jj_s (pc' := 26) rfl rfl ?_
      have L2 : ∀ d k, k ≤ N → N + 1 ≤ k + d → JJ X0 G B M5_doomedBy 26 [some (.ref (B + q)), some (.int (nI i)), some (.int (dpk F l k).1), some (.int (bI (dpk F l k).2)), some (.int (nI (1000 - (m + 1)))), some (.int (nI k))] [] n (wQ B q N S F h) 0 0 (eqP (some (.int (dmk F N (m + 1) l &&& (bit i ^^^ -1)))) n (wQ B q N S F h)) := by
        intro d
        induction d with
        | zero => intro k h1 h2; exact absurd h2 (by omega)
        | succ d ih =>
          intro k h1 h2
          refine jj_s (pc' := 28) rfl rfl ?_
          refine jj_s (pc' := 29) rfl rfl ?_
          refine jj_g rfl rfl wQ_o rfl ?_
          refine jj_geN 80 rfl rfl (by omega) (by omega) (fun c => ?_) (fun c => ?_)
          · have hk : k = N := by omega
            subst hk
            first | refine jj_inc rfl rfl ?_ | refine jj_s (pc' := 83) rfl rfl ?_
            refine jj_s (pc' := 9) rfl rfl ?_
            cases hb : (dpk F l k).2 with
            | true =>
              have e : dmk F k (m + 1) l = dmk F k m (dpk F l k).1 := by rw [dmk, if_pos hb]
              rw [e]
              rw [show 1000 - (m + 1) + 1 = 1000 - m by omega]
              exact ihm (dpk F l k).1 _ (by omega)
            | false =>
              have e : dmk F k (m + 1) l = (dpk F l k).1 := by rw [dmk, if_neg (by rw [hb]; decide)]
              rw [e]
              refine jj_s (pc' := 10) rfl rfl ?_
              refine jj_if_eq 86 rfl rfl (fun c => ?_) (fun c => absurd rfl c)
              refine jj_s (pc' := 87) rfl rfl ?_
              refine jj_s (pc' := 88) rfl rfl ?_
              refine jj_s (pc' := 89) rfl rfl ?_
              refine jj_s (pc' := 90) rfl rfl ?_
              refine jj_s (pc' := 91) rfl rfl ?_
              refine jj_s (pc' := 92) rfl rfl ?_
              refine jj_s (pc' := 93) rfl rfl ?_
              exact jj_iret rfl rfl ⟨rfl, rfl, rfl⟩
          · have skip : ¬ ((F 5 k = 0 ∨ F 5 k = 1) ∧ bt (dpk F l k).1 k = false ∧ ¬ F 11 k &&& (dpk F l k).1 = 0) → JJ X0 G B M5_doomedBy 74 [some (.ref (B + q)), some (.int (nI i)), some (.int (dpk F l k).1), some (.int (bI (dpk F l k).2)), some (.int (nI (1000 - (m + 1)))), some (.int (nI k))] [] n (wQ B q N S F h) 0 0 (eqP (some (.int (dmk F N (m + 1) l &&& (bit i ^^^ -1)))) n (wQ B q N S F h)) := by
              intro hs
              have e : dpk F l (k + 1) = dpk F l k := by rw [dpk, if_neg hs]
              first | refine jj_inc rfl rfl ?_ | refine jj_s (pc' := 77) rfl rfl ?_
              refine jj_s (pc' := 26) rfl rfl ?_
              refine jj_lv ?_ (ih (k + 1) (by omega) (by omega))
              rw [e]; rfl
            refine jj_s (pc' := 36) rfl rfl ?_
            refine jj_s (pc' := 38) rfl rfl ?_
            refine jj_v1 rfl rfl rfl wQ_o rfl rfl (c_followsEdges (by omega)) ?_
            refine jj_zT 74 rfl rfl (fun c2 => ?_) (fun c2 => ?_)
            · exact skip (fun z => of_decide_eq_false c2 z.1)
            · refine jj_s (pc' := 45) rfl rfl ?_
              refine jj_s (pc' := 47) rfl rfl ?_
              refine jj_t2 rfl rfl rfl rfl rfl (c_has (by omega)) ?_
              refine jj_zF 74 rfl rfl (fun c3 => ?_) (fun c3 => ?_)
              · exact skip (fun z => by rw [c3] at z; cases z.2.1)
              · refine jj_s (pc' := 54) rfl rfl ?_
                refine jj_g rfl rfl wQ_o rfl ?_
                refine jj_s (pc' := 59) rfl rfl ?_
                refine jj_qld [] rfl rfl (by decide) (by first | assumption | omega) ?_
                refine jj_s (pc' := 61) rfl rfl ?_
                refine jj_s (pc' := 62) rfl rfl ?_
                refine jj_if_eq 74 rfl rfl (fun c4 => ?_) (fun c4 => ?_)
                · exact skip (fun z => z.2.2 c4)
                · have e : dpk F l (k + 1) = ((dpk F l k).1 ||| bit k, true) := by rw [dpk, if_pos ⟨of_decide_eq_true c2, c3, c4⟩]
                  refine jj_s (pc' := 66) rfl rfl ?_
                  refine jj_s (pc' := 67) rfl rfl ?_
                  refine jj_s (pc' := 69) rfl rfl ?_
                  refine jj_s (pc' := 70) rfl rfl ?_
                  refine jj_s (pc' := 71) rfl rfl ?_
                  refine jj_s (pc' := 72) rfl rfl ?_
                  refine jj_s (pc' := 73) rfl rfl ?_
                  refine jj_s (pc' := 74) rfl rfl ?_
                  first | refine jj_inc rfl rfl ?_ | refine jj_s (pc' := 77) rfl rfl ?_
                  refine jj_s (pc' := 26) rfl rfl ?_
                  refine jj_lv ?_ (ih (k + 1) (by omega) (by omega))
                  rw [e]; rfl
      exact L2 (N + 1) 0 (by omega) (by omega)
  exact L 1000 (bit i) none (by omega)
