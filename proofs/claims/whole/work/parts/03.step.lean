/-! the judgement: from pc on, with these locals, stack and cells, the method ends, and 'post' holds of its answer and its cells -/
def PicJ (G : GC) (B n : Nat) (h : HT) (H : Heap) : Prop := va_P G.1 clG (wd G B n h) H ∧ H.size = B + n ∧ HOk n h
def QJ (G : GC) (B : Nat) (post : Option Value → Nat → HT → Prop) : Array Value → State → Outcome → State → Prop := fun _ st o t =>
  ∃ (r : Option Value) (n : Nat) (h : HT), o = .returned r ∧ post r n h ∧ PicJ G B n h t.heap ∧ st.heap.size ≤ t.heap.size ∧ ∀ q : Nat, q < B → t.heap[q]? = st.heap[q]?
def lvl (ls : Array Slot) (nL : Nat) (lv : List (Option Value)) : Prop := ls.size = nL ∧ lv_wf ls ∧ lv.length = nL ∧ ∀ (i : Nat) (v : Value), lv[i]? = some (some v) → ls[i]? = some (.val v) ∧ v.category = 1
def CxJ (X : State → Prop) (G : GC) (B : Nat) (y : MT) (p : Program) (R : Room) (s : State) (m : MethodId) (args : Array Value) (meth : Method) (c : Code) : Prop :=
  p.tables.exec = Jvm.exec ∧ c.code = M_by y ∧ meth.sig.returnType = M_rt y ∧ c.maxLocals = M_ml y ∧ s.vm.findClass (M_nm y).cls = some m.cls ∧ (∀ w ∈ tW, w.before args s = true) ∧ meth.locks = false ∧ meth.name = (M_nm y).name ∧ va_K G.1 clG (tysG G) s ∧ B ≤ s.heap.size ∧ M_fr y ≤ R.frames ∧ M_lo y ≤ R.locals ∧ TbOk y ∧ XW s ∧ X s ∧ (∀ ci q, clG[ci]? = some q → CO ci q) ∧ ∀ o, clG[M_own y]? = some o → o.1 = (M_nm y).cls
def JJ (X : State → Prop) (G : GC) (B : Nat) (y : MT) (pc : Nat) (lv : List (Option Value)) (st : List Value) (n : Nat) (h : HT) (kc ks : Nat) (post : Option Value → Nat → HT → Prop) : Prop :=
  ∀ (p : Program) (l : Launch) (e : Env) (R : Room) (s : State) (m : MethodId) (args : Array Value) (below : List Frame) (meth : Method) (c : Code) (H : Heap) (locs : List Loc) (cells slots : Nat) (ls : Array Slot) (mc ms : Nat),
    CxJ X G B y p R s m args meth c → PicJ G B n h H → va_S (fun q => B ≤ q) s.heap H locs → lvl ls (M_ml y) lv → cells + kc ≤ mc → slots + ks ≤ ms → mc ≤ R.cells → ms ≤ R.slots →
      W p l e R s m args below meth c H locs cells slots (MQ below (QJ G B post) args s mc ms (fun q => B ≤ q)) (F0 m pc ls st)
/-- no more is asked of the start -/
abbrev X0 : State → Prop := fun _ => True
def lpre (lv : List (Option Value)) : List (Nat × Value) := (List.range lv.length).filterMap fun i => match lv[i]? with
  | some (some v) => some (i, v)
  | _ => none
theorem lpre_mem {lv : List (Option Value)} {i : Nat} {v : Value} : (i, v) ∈ lpre lv ↔ lv[i]? = some (some v) := by
  unfold lpre
  rw [List.mem_filterMap]
  constructor
  · rintro ⟨a, -, ha⟩
    split at ha
    next w hw => cases ha; exact hw
    next => cases ha
  · intro h
    refine ⟨i, List.mem_range.mpr (List.getElem?_eq_some_iff.mp h).1, ?_⟩
    rw [h]
theorem lvl.has {ls : Array Slot} {nL : Nat} {lv : List (Option Value)} (h : lvl ls nL lv) : lv_has ls nL (lpre lv) := ⟨h.1, h.2.1, fun q hq => (h.2.2.2 q.1 q.2 (lpre_mem.mp hq)).1⟩
theorem lvl.store {ls ls' : Array Slot} {nL : Nat} {lv : List (Option Value)} {i : Nat} {v : Value} (h : lvl ls nL lv) (hc : v.category = 1) (hi : i < nL) (h' : lv_has ls' nL ((i, v) :: (lpre lv).filter (fun q => !(q.1 == i) && !(q.1 + 1 == i && q.2.category == 2)))) : lvl ls' nL (lv.set i (some v)) := by
  refine ⟨h'.1, h'.2.1, by rw [List.length_set]; exact h.2.2.1, fun j w hj => ?_⟩
  by_cases hji : j = i
  · subst hji
    rw [List.getElem?_set_self (by rw [h.2.2.1]; exact hi)] at hj
    cases hj
    exact ⟨h'.2.2 (j, v) List.mem_cons_self, hc⟩
  · rw [List.getElem?_set_ne (fun q => hji q.symm)] at hj
    have g := h.2.2.2 j w hj
    refine ⟨h'.2.2 (j, w) (List.mem_cons_of_mem _ (List.mem_filter.mpr ⟨lpre_mem.mpr hj, ?_⟩)), g.2⟩
    simp [hji, g.2]
theorem lvl.entry (vs : List Value) {n : Nat} (hn : vs.length ≤ n) (hc : ∀ v ∈ vs, v.category = 1) : lvl ((lg_sl vs ++ List.replicate (n - (lg_sl vs).length) Slot.unset).toArray) n (vs.map some ++ List.replicate (n - vs.length) none) := by
  have e : ∀ l : List Value, (∀ v ∈ l, v.category = 1) → lg_sl l = l.map Slot.val := by
    intro l hl
    induction l with
    | nil => rfl
    | cons a l ih =>
      have ha : ¬ a.category = 2 := by rw [hl a List.mem_cons_self]; decide
      show (if a.category = 2 then [Slot.val a, .second] else [Slot.val a]) ++ lg_sl l = _
      rw [if_neg ha, ih (fun v hv => hl v (List.mem_cons_of_mem _ hv))]
      rfl
  have hlen : (lg_sl vs).length = vs.length := by rw [e vs hc, List.length_map]
  obtain ⟨h1, h2, h3⟩ := lv_entry vs (n := n) (by rw [hlen]; exact hn)
  refine ⟨h1, h2, by simp; omega, fun i v hi => ?_⟩
  by_cases hl : i < vs.length
  · rw [List.getElem?_append_left (by rw [List.length_map]; exact hl), List.getElem?_map] at hi
    cases hv : vs[i]? with
    | none => rw [hv] at hi; cases hi
    | some w =>
      rw [hv] at hi
      cases hi
      refine ⟨?_, hc _ (List.mem_of_getElem? hv)⟩
      rw [e vs hc, List.getElem?_toArray, List.getElem?_append_left (by rw [List.length_map]; exact hl), List.getElem?_map, hv]
      rfl
  · rw [List.getElem?_append_right (by rw [List.length_map]; omega)] at hi
    rw [List.getElem?_replicate] at hi
    split at hi <;> cases hi
/-- what an instruction does that touches no cell -/
def stp (ins : Instr) (pc : Nat) (lv : List (Option Value)) (st : List Value) : Option (Nat × List (Option Value) × List Value) :=
  match ins with
  | .iconst n => some (pc + 1, lv, .int (Int32.ofInt n) :: st)
  | .bipush n => some (pc + 2, lv, .int ((Int8.ofInt n).toInt32) :: st)
  | .sipush n => some (pc + 3, lv, .int ((Int16.ofInt n).toInt32) :: st)
  | .lconst n => some (pc + 1, lv, .long (Int64.ofNat (n : Nat)) :: st)
  | .iload_n k => match lv[(k : Nat)]? with
    | some (some (.int x)) => some (pc + 1, lv, .int x :: st)
    | _ => none
  | .iload k => match lv[k]? with
    | some (some (.int x)) => some (pc + 2, lv, .int x :: st)
    | _ => none
  | .aload_n k => match lv[(k : Nat)]? with
    | some (some (.ref x)) => some (pc + 1, lv, .ref x :: st)
    | _ => none
  | .aload k => match lv[k]? with
    | some (some (.ref x)) => some (pc + 2, lv, .ref x :: st)
    | _ => none
  | .istore_n k => match st, lv[(k : Nat)]? with
    | .int x :: r, some _ => some (pc + 1, lv.set (k : Nat) (some (.int x)), r)
    | _, _ => none
  | .istore k => match st, lv[k]? with
    | .int x :: r, some _ => some (pc + 2, lv.set k (some (.int x)), r)
    | _, _ => none
  | .astore_n k => match st, lv[(k : Nat)]? with
    | .ref x :: r, some _ => some (pc + 1, lv.set (k : Nat) (some (.ref x)), r)
    | _, _ => none
  | .astore k => match st, lv[k]? with
    | .ref x :: r, some _ => some (pc + 2, lv.set k (some (.ref x)), r)
    | _, _ => none
  | .iinc k c => match lv[k]? with
    | some (some (.int x)) => some (pc + 3, lv.set k (some (.int (x + Int32.ofInt c))), st)
    | _ => none
  | .iadd => match st with
    | .int y :: .int x :: r => some (pc + 1, lv, .int (x + y) :: r)
    | _ => none
  | .isub => match st with
    | .int y :: .int x :: r => some (pc + 1, lv, .int (x - y) :: r)
    | _ => none
  | .imul => match st with
    | .int y :: .int x :: r => some (pc + 1, lv, .int (x * y) :: r)
    | _ => none
  | .iand => match st with
    | .int y :: .int x :: r => some (pc + 1, lv, .int (x &&& y) :: r)
    | _ => none
  | .ior => match st with
    | .int y :: .int x :: r => some (pc + 1, lv, .int (x ||| y) :: r)
    | _ => none
  | .ixor => match st with
    | .int y :: .int x :: r => some (pc + 1, lv, .int (x ^^^ y) :: r)
    | _ => none
  | .ishl => match st with
    | .int y :: .int x :: r => some (pc + 1, lv, .int (x <<< (y &&& 31)) :: r)
    | _ => none
  | .ishr => match st with
    | .int y :: .int x :: r => some (pc + 1, lv, .int (x >>> (y &&& 31)) :: r)
    | _ => none
  | .iushr => match st with
    | .int y :: .int x :: r => some (pc + 1, lv, .int ((x.toUInt32 >>> (y.toUInt32 &&& Int32.toUInt32 31)).toInt32) :: r)
    | _ => none
  | .ladd => match st with
    | .long y :: .long x :: r => some (pc + 1, lv, .long (x + y) :: r)
    | _ => none
  | .dup => match st with
    | .int x :: r => some (pc + 1, lv, .int x :: .int x :: r)
    | .ref x :: r => some (pc + 1, lv, .ref x :: .ref x :: r)
    | _ => none
  | .dup2 => match st with
    | .int y :: .ref x :: r => some (pc + 1, lv, .int y :: .ref x :: .int y :: .ref x :: r)
    | _ => none
  | .goto off => match (pc : Int) + off with
    | .ofNat t => some (t, lv, st)
    | _ => none
  | _ => none
theorem jj_s {X : State → Prop} {G : GC} {B : Nat} {y : MT} {pc : Nat} {lv : List (Option Value)} {st : List Value} {n : Nat} {h : HT} {kc ks : Nat} {post : Option Value → Nat → HT → Prop} {ins : Instr} {pc' : Nat} {lv' : List (Option Value)} {st' : List Value}
    (hd : lk (M_tb y) pc = some ins) (hs : stp ins pc lv st = some (pc', lv', st')) (k : JJ X G B y pc' lv' st' n h kc ks post) : JJ X G B y pc lv st n h kc ks post := by
  intro p l e R s m args below meth c H locs cells slots ls mc ms C P S L k1 k2 k3 k4
  have K := fun ls' L' => k p l e R s m args below meth c H locs cells slots ls' mc ms C P S L' k1 k2 k3 k4
  obtain ⟨hx, hb, hr, hml, hown, hts, hlk, hnm, hK, hB, hfr, hlo, hT, hXW, hX, hCO, ho⟩ := C
  cases ins <;> simp only [stp] at hs <;> first | (cases hs; done) | skip
  case aload k =>
    split at hs
    next x hv => cases hs; exact lv_aload hx hb (hT.at hd rfl) (L.2.2.2 _ _ hv).1 (K ls L)
    next => cases hs
  case aload_n k =>
    split at hs
    next x hv => cases hs; exact lv_aload_n hx hb (hT.at hd rfl) rfl (L.2.2.2 _ _ hv).1 (K ls L)
    next => cases hs
  case astore k =>
    split at hs
    next x r w hv => cases hs; have hn := (List.getElem?_eq_some_iff.mp hv).1; rw [L.2.2.1] at hn; exact lv_astore hx hb (hT.at hd rfl) L.has hn rfl (fun ls' h' => K ls' (L.store rfl hn h'))
    next => cases hs
  case astore_n k =>
    split at hs
    next x r w hv => cases hs; have hn := (List.getElem?_eq_some_iff.mp hv).1; rw [L.2.2.1] at hn; exact lv_astore_n hx hb (hT.at hd rfl) rfl L.has hn rfl (fun ls' h' => K ls' (L.store rfl hn h'))
    next => cases hs
  case bipush k => cases hs; exact lv_bipush hx hb (hT.at hd rfl) rfl (K ls L)
  case dup =>
    split at hs
    next => cases hs; exact lv_dup hx hb (hT.at hd rfl) rfl (K ls L)
    next => cases hs; exact lv_dup hx hb (hT.at hd rfl) rfl (K ls L)
    next => cases hs
  case dup2 =>
    split at hs
    next => cases hs; exact lv_dup2_11 hx hb (hT.at hd rfl) rfl rfl (K ls L)
    next => cases hs
  case goto off =>
    split at hs
    next t ht => cases hs; exact lv_goto hx hb (hT.at hd rfl) ht (K ls L)
    next => cases hs
  case iadd =>
    split at hs
    next => cases hs; exact lv_iadd hx hb (hT.at hd rfl) (K ls L)
    next => cases hs
  case iand =>
    split at hs
    next => cases hs; exact lv_iand hx hb (hT.at hd rfl) (K ls L)
    next => cases hs
  case iconst k => cases hs; exact lv_iconst hx hb (hT.at hd rfl) rfl (K ls L)
  case iinc k c =>
    split at hs
    next x hv =>
      cases hs
      have hn := (List.getElem?_eq_some_iff.mp hv).1
      rw [L.2.2.1] at hn
      obtain ⟨j, hj⟩ := List.getElem?_of_mem (lpre_mem.mpr hv)
      exact lv_iinc hx hb (hT.at hd rfl) L.has hj rfl hn rfl (fun ls' h' => K ls' (L.store rfl hn h'))
    next => cases hs
  case iload k =>
    split at hs
    next x hv => cases hs; exact lv_iload hx hb (hT.at hd rfl) (L.2.2.2 _ _ hv).1 (K ls L)
    next => cases hs
  case iload_n k =>
    split at hs
    next x hv => cases hs; exact lv_iload_n hx hb (hT.at hd rfl) rfl (L.2.2.2 _ _ hv).1 (K ls L)
    next => cases hs
  case imul =>
    split at hs
    next => cases hs; exact lv_imul hx hb (hT.at hd rfl) (K ls L)
    next => cases hs
  case ior =>
    split at hs
    next => cases hs; exact lv_ior hx hb (hT.at hd rfl) (K ls L)
    next => cases hs
  case ishl =>
    split at hs
    next => cases hs; exact lv_ishl hx hb (hT.at hd rfl) (K ls L)
    next => cases hs
  case ishr =>
    split at hs
    next => cases hs; exact lv_ishr hx hb (hT.at hd rfl) (K ls L)
    next => cases hs
  case istore k =>
    split at hs
    next x r w hv => cases hs; have hn := (List.getElem?_eq_some_iff.mp hv).1; rw [L.2.2.1] at hn; exact lv_istore hx hb (hT.at hd rfl) L.has hn rfl (fun ls' h' => K ls' (L.store rfl hn h'))
    next => cases hs
  case istore_n k =>
    split at hs
    next x r w hv => cases hs; have hn := (List.getElem?_eq_some_iff.mp hv).1; rw [L.2.2.1] at hn; exact lv_istore_n hx hb (hT.at hd rfl) rfl L.has hn rfl (fun ls' h' => K ls' (L.store rfl hn h'))
    next => cases hs
  case isub =>
    split at hs
    next => cases hs; exact lv_isub hx hb (hT.at hd rfl) (K ls L)
    next => cases hs
  case iushr =>
    split at hs
    next => cases hs; exact lv_iushr hx hb (hT.at hd rfl) rfl (K ls L)
    next => cases hs
  case ixor =>
    split at hs
    next => cases hs; exact lv_ixor hx hb (hT.at hd rfl) (K ls L)
    next => cases hs
  case ladd =>
    split at hs
    next => cases hs; exact lv_ladd hx hb (hT.at hd rfl) (K ls L)
    next => cases hs
  case lconst k => cases hs; exact lv_lconst hx hb (hT.at hd rfl) rfl (K ls L)
  case sipush k => cases hs; exact lv_sipush hx hb (hT.at hd rfl) rfl (K ls L)
