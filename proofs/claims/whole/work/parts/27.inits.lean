/-! new objects: a heap with cells laid from n on -/
def gl (h : HT) (n : Nat) (L : List AE) : HT := fun k => if n ≤ k ∧ k < n + L.length then L[k - n]? else h k
theorem gl_at {h : HT} {n i : Nat} {L : List AE} {e : AE} (hi : L[i]? = some e) : gl h n L (n + i) = some e := by
  have := (List.getElem?_eq_some_iff.mp hi).1
  unfold gl
  rw [if_pos (by omega), show n + i - n = i by omega, hi]
theorem gl_n {h : HT} {n k : Nat} {L : List AE} (hk : k < n) : gl h n L k = h k := by
  unfold gl
  rw [if_neg (by omega)]
theorem gl_put {h : HT} {n i : Nat} {L : List AE} {e : AE} (hi : i < L.length) : hu (gl h n L) (n + i) e = gl h n (L.set i e) := by
  funext k
  unfold hu gl
  by_cases hk : k = n + i
  · subst hk
    rw [if_pos rfl, List.length_set, if_pos (by omega), show n + i - n = i by omega, List.getElem?_set_self hi]
  · rw [if_neg hk, List.length_set]
    by_cases h1 : n ≤ k ∧ k < n + L.length
    · rw [if_pos h1, if_pos h1, List.getElem?_set_ne (by omega)]
    · rw [if_neg h1, if_neg h1]
theorem gl_new {h : HT} {n : Nat} {L : List AE} {e : AE} : hu (gl h n L) (n + L.length) e = gl h n (L ++ [e]) := by
  funext k
  unfold hu gl
  rw [List.length_append, List.length_singleton]
  by_cases hk : k = n + L.length
  · subst hk
    rw [if_pos rfl, if_pos (by omega), show n + L.length - n = L.length by omega]
    simp
  · rw [if_neg hk]
    by_cases h1 : n ≤ k ∧ k < n + L.length
    · rw [if_pos h1, if_pos (by omega), List.getElem?_append_left (by omega)]
    · rw [if_neg h1, if_neg (by omega)]
theorem gl_gl {h : HT} {n : Nat} {L M : List AE} : gl (gl h n L) (n + L.length) M = gl h n (L ++ M) := by
  funext k
  unfold gl
  rw [List.length_append]
  by_cases h1 : n + L.length ≤ k ∧ k < n + L.length + M.length
  · rw [if_pos h1, if_pos (by omega), List.getElem?_append_right (by omega), show k - n - L.length = k - (n + L.length) by omega]
  · rw [if_neg h1]
    by_cases h2 : n ≤ k ∧ k < n + L.length
    · rw [if_pos h2, if_pos (by omega), List.getElem?_append_left (by omega)]
    · rw [if_neg h2, if_neg (by omega)]
theorem gl_one {h : HT} {n : Nat} {e : AE} : hu h n e = gl h n [e] := by
  funext k
  unfold hu gl
  by_cases hk : k = n
  · subst hk
    simp
  · rw [if_neg hk, if_neg (by simp; omega)]
theorem tw_oi : Cond.instanceMethod objectInit ∈ tW := tm1 20 rfl rfl
theorem tw_oc : Cond.code objectInit ⟨#[0xb1]⟩ 1 none ∈ tW := tm1 21 rfl rfl
theorem tw_ai : Cond.arrayClass .int ∈ tW := tm1 101 rfl rfl
theorem tw_al : Cond.arrayClass .long ∈ tW := tm1 205 rfl rfl
def dcl (ci k : Nat) : Option String := clG[ci]?.map fun q => (q.2.1 k).1
theorem dcl_use {ci k : Nat} {s : String} (h : dcl ci k = some s) : ∀ q, clG[ci]? = some q → (q.2.1 k).1 = s := by
  intro q hq
  unfold dcl at h
  rw [hq] at h
  exact Option.some.inj h
/-- a reference into a field -/
theorem jj_pr {X : State → Prop} {G : GC} {B : Nat} {y : MT} {pc : Nat} {lv : List (Option Value)} {n : Nat} {h : HT} {kc ks : Nat} {post : Option Value → Nat → HT → Prop} {st : List Value} {idx ci k z z' : Nat} {fs : List Value} {L : List AE} (hd : lk (M_tb y) pc = some (.putfield idx)) (hf : fld (M_own y) idx = some (ci, k)) (hi0 : (M_nm y).name = "<init>") (hfin : finG ci k = true) (hdc : dcl ci k = some (M_nm y).cls) (hn : narrow (tyG ci k) (.ref (B + z)) = .ref (B + z)) (hfit : fits (tyG ci k) (.ref (B + z)) = true) (hl : Nat.blt k fs.length = true) (K : JJ X G B y (pc + 3) lv st (z') (gl h n (ob ci (fs.set k (.ref (B + z))) :: L)) kc ks post) : JJ X G B y pc lv (.ref (B + z) :: .ref (B + n) :: st) z' (gl h n (ob ci fs :: L)) kc ks post := by
  refine jj_putF hd (fld_ok hf) hi0 hfin (dcl_use hdc) hn hfit (gl_at (n := n) (i := 0) rfl) (by have := hl; simp at this; exact this) (jj_h ?_ K)
  exact gl_put (i := 0) (by simp)
theorem jj_pi {X : State → Prop} {G : GC} {B : Nat} {y : MT} {pc : Nat} {lv : List (Option Value)} {n : Nat} {h : HT} {kc ks : Nat} {post : Option Value → Nat → HT → Prop} {st : List Value} {idx ci k z' : Nat} {fs : List Value} {L : List AE} {x : Int32} (hd : lk (M_tb y) pc = some (.putfield idx)) (hf : fld (M_own y) idx = some (ci, k)) (hty : tyG ci k = .int) (hfin : finG ci k = false) (hl : Nat.blt k fs.length = true) (K : JJ X G B y (pc + 3) lv st z' (gl h n (ob ci (fs.set k (.int x)) :: L)) kc ks post) : JJ X G B y pc lv (.int x :: .ref (B + n) :: st) z' (gl h n (ob ci fs :: L)) kc ks post := by
  refine jj_p hd hf hty hfin (gl_at (n := n) (i := 0) rfl) hl (jj_h ?_ K)
  exact gl_put (i := 0) (by simp)
theorem jj_na {X : State → Prop} {G : GC} {B : Nat} {y : MT} {pc : Nat} {lv : List (Option Value)} {n : Nat} {h : HT} {kc ks : Nat} {post : Option Value → Nat → HT → Prop} {st : List Value} {idx ci k cnt : Nat} {fs : List Value} {L : List AE} {v : Int32} (N : Nat) (hd1 : lk (M_tb y) pc = some (.newarray .int)) (hd2 : lk (M_tb y) (pc + 2) = some (.putfield idx)) (hf : fld (M_own y) idx = some (ci, k)) (hi0 : (M_nm y).name = "<init>") (hfin : finG ci k = true) (hdc : dcl ci k = some (M_nm y).cls) (hn : narrow (tyG ci k) (.ref (B + cnt)) = .ref (B + cnt)) (hfit : fits (tyG ci k) (.ref (B + cnt)) = true) (hl : Nat.blt k fs.length = true) (hv : ¬ v < 0) (hN : v.toNatClampNeg = N) (hby : Nat.ble (N * 4) 536870912 = true) (hcnt : cnt = n + (L.length + 1)) (K : JJ X G B y (pc + 5) lv st (cnt + 1) (gl h n (ob ci (fs.set k (.ref (B + cnt))) :: (L ++ [ia N (fun _ => 0)]))) kc ks post) : JJ X G B y pc lv (.int v :: .ref (B + n) :: st) cnt (gl h n (ob ci fs :: L)) (kc + 1) (ks + N) post := by
  refine jj_newi N hd1 tw_ai hv hN (Nat.le_of_ble_eq_true hby) (jj_h (h' := gl h n (ob ci fs :: (L ++ [ia N (fun _ => 0)]))) ?_ (jj_pr hd2 hf hi0 hfin hdc hn hfit hl K))
  subst hcnt
  exact gl_new (L := ob ci fs :: L)
theorem jj_nl {X : State → Prop} {G : GC} {B : Nat} {y : MT} {pc : Nat} {lv : List (Option Value)} {n : Nat} {h : HT} {kc ks : Nat} {post : Option Value → Nat → HT → Prop} {st : List Value} {idx ci k cnt : Nat} {fs : List Value} {L : List AE} {v : Int32} (N : Nat) (hd1 : lk (M_tb y) pc = some (.newarray .long)) (hd2 : lk (M_tb y) (pc + 2) = some (.putfield idx)) (hf : fld (M_own y) idx = some (ci, k)) (hi0 : (M_nm y).name = "<init>") (hfin : finG ci k = true) (hdc : dcl ci k = some (M_nm y).cls) (hn : narrow (tyG ci k) (.ref (B + cnt)) = .ref (B + cnt)) (hfit : fits (tyG ci k) (.ref (B + cnt)) = true) (hl : Nat.blt k fs.length = true) (hv : ¬ v < 0) (hN : v.toNatClampNeg = N) (hby : Nat.ble (N * 8) 536870912 = true) (hcnt : cnt = n + (L.length + 1)) (K : JJ X G B y (pc + 5) lv st (cnt + 1) (gl h n (ob ci (fs.set k (.ref (B + cnt))) :: (L ++ [la N (fun _ => 0)]))) kc ks post) : JJ X G B y pc lv (.int v :: .ref (B + n) :: st) cnt (gl h n (ob ci fs :: L)) (kc + 1) (ks + N) post := by
  refine jj_newl N hd1 tw_al hv hN (Nat.le_of_ble_eq_true hby) (jj_h (h' := gl h n (ob ci fs :: (L ++ [la N (fun _ => 0)]))) ?_ (jj_pr hd2 hf hi0 hfin hdc hn hfit hl K))
  subst hcnt
  exact gl_new (L := ob ci fs :: L)
def iOk (y y' : MT) (k : Nat) : Bool := roomOk y y' && (M_np y' == k) && Nat.ble (k + 1) (M_ml y')
theorem jj_ig {X : State → Prop} {G : GC} {B : Nat} {y : MT} {pc : Nat} {lv : List (Option Value)} {n : Nat} {h : HT} {kc ks : Nat} {post : Option Value → Nat → HT → Prop} {st rest : List Value} {y' : MT} {idx mc' ms' n' : Nat} {h' : HT} {as : List Value} {r : Option Value} {a : Nat} (hd : lk (M_tb y) pc = some (.invokespecial idx)) (hl : cal (M_own y) idx = some (2, y')) (hv : iOk y y' as.length = true) (hvoid : M_rt y' = none) (hst : st = as.reverse ++ .ref (B + a) :: rest) (hcat : as.all (fun v => v.category == 1) = true) (hrest : Nat.ble (rest.map fun v => v.category).sum 8 = true) (hC : CtJ G B y' (.ref (B + a) :: as) n h mc' ms' (eqP r n' h')) (K : JJ X G B y (pc + 3) lv (r.toList ++ rest) n' h' kc ks post) : JJ X G B y pc lv st n h (kc + mc') (ks + ms') post := by
  intro p l e R s m args below meth c H locs cells slots ls mc ms C P S L k1 k2 k3 k4
  obtain ⟨hok, how, hlk⟩ := cal_ok hl
  have hown : OwnOk y := C.2.2.2.2.2.2.2.2.2.2.2.2.2.2.2.2
  unfold iOk at hv
  simp only [Bool.and_eq_true, beq_iff_eq, Nat.ble_eq] at hv
  obtain ⟨⟨v1, v3⟩, v4⟩ := hv
  exact jj_cI hd hok how v1 ((hlk y rfl hown).2.2.1 rfl) hvoid hst v3.symm (cat_all hcat) v4 (Nat.le_of_ble_eq_true hrest) (Nat.le_add_left _ _) (Nat.le_add_left _ _) hC (by rw [Nat.add_sub_cancel, Nat.add_sub_cancel]; exact K) p l e R s m args below meth c H locs cells slots ls mc ms C P S L k1 k2 k3 k4
theorem jj_ing {X : State → Prop} {G : GC} {B : Nat} {y : MT} {pc : Nat} {lv : List (Option Value)} {n : Nat} {h : HT} {kc ks : Nat} {post : Option Value → Nat → HT → Prop} {st rest : List Value} {y' : MT} {idx mc' ms' n' : Nat} {h' : HT} {as : List Value} {r : Option Value} {a : Nat} (hd : lk (M_tb y) pc = some (.invokespecial idx)) (hl : cal (M_own y) idx = some (12, y')) (hv : iOk y y' as.length = true) (hvoid : M_rt y' = none) (hst : st = as.reverse ++ .ref (B + a) :: rest) (hcat : as.all (fun v => v.category == 1) = true) (hrest : Nat.ble (rest.map fun v => v.category).sum 8 = true) (hC : CtJ G B y' (.ref (B + a) :: as) n h mc' ms' (eqP r n' h')) (K : JJ X G B y (pc + 3) lv (r.toList ++ rest) n' h' kc ks post) : JJ X G B y pc lv st n h (kc + mc') (ks + ms') post := by
  intro p l e R s m args below meth c H locs cells slots ls mc ms C P S L k1 k2 k3 k4
  obtain ⟨hok, how, hlk⟩ := cal_ok hl
  have hown : OwnOk y := C.2.2.2.2.2.2.2.2.2.2.2.2.2.2.2.2
  unfold iOk at hv
  simp only [Bool.and_eq_true, beq_iff_eq, Nat.ble_eq] at hv
  obtain ⟨⟨v1, v3⟩, v4⟩ := hv
  exact jj_cIN hd hok how v1 ((hlk y rfl hown).2.2.2.2 rfl) hvoid hst v3.symm (cat_all hcat) v4 (Nat.le_of_ble_eq_true hrest) (Nat.le_add_left _ _) (Nat.le_add_left _ _) hC (by rw [Nat.add_sub_cancel, Nat.add_sub_cancel]; exact K) p l e R s m args below meth c H locs cells slots ls mc ms C P S L k1 k2 k3 k4
theorem jj_mk {X : State → Prop} {G : GC} {B : Nat} {y : MT} {pc : Nat} {lv : List (Option Value)} {n : Nat} {h : HT} {kc ks : Nat} {post : Option Value → Nat → HT → Prop} {st : List Value} {y' : MT} {idx idx2 ci N cnt cnt' mc' ms' : Nat} {Cn : String} {Tn : u_T} {L M : List AE} (fs : List Value) (hd1 : lk (M_tb y) pc = some (.new idx)) (hd2 : lk (M_tb y) (pc + 3) = some .dup) (hd3 : lk (M_tb y) (pc + 4) = some (.invokespecial idx2)) (hq : clG[ci]? = some (Cn, Tn, N)) (hcl : Cond.classLink (M_nm y).cls idx Cn ∈ tW) (hin : Cond.instantiable Cn N ∈ tW) (hini : Cond.initialized Cn ∈ tW) (hfs : ∀ j, j < N → defaultValue (tyG ci j) = vp_V fs j) (hl : cal (M_own y) idx2 = some (2, y')) (hv : iOk y y' 0 = true) (hvoid : M_rt y' = none) (hrest : Nat.ble ((Value.ref (B + cnt) :: st).map fun v => v.category).sum 8 = true) (hcnt : cnt = n + L.length) (hC : ∀ h, CtJ G B y' [.ref (B + cnt)] (cnt + 1) (gl h cnt [ob ci fs]) mc' ms' (eqP none cnt' (gl h cnt M))) (K : JJ X G B y (pc + 7) lv (.ref (B + cnt) :: st) cnt' (gl h n (L ++ M)) kc ks post) : JJ X G B y pc lv st cnt (gl h n L) (kc + mc' + 1) (ks + ms' + N) post := by
  refine jj_new fs hd1 hq hcl hin hini hfs ?_
  refine jj_s (pc' := pc + 4) hd2 rfl ?_
  refine jj_h gl_one ?_
  refine jj_ig (as := []) hd3 hl hv hvoid rfl rfl hrest (hC _) ?_
  subst hcnt
  exact jj_h gl_gl K
theorem jj_mkn {X : State → Prop} {G : GC} {B : Nat} {y : MT} {pc : Nat} {lv : List (Option Value)} {n : Nat} {h : HT} {kc ks : Nat} {post : Option Value → Nat → HT → Prop} {st : List Value} {y' : MT} {idx idx2 ci N cnt cnt' mc' ms' : Nat} {Cn : String} {Tn : u_T} {L M : List AE} (fs : List Value) (hd1 : lk (M_tb y) pc = some (.new idx)) (hd2 : lk (M_tb y) (pc + 3) = some .dup) (hd3 : lk (M_tb y) (pc + 4) = some (.invokespecial idx2)) (hq : clG[ci]? = some (Cn, Tn, N)) (hcl : Cond.classLink (M_nm y).cls idx Cn ∈ tW) (hin : Cond.instantiable Cn N ∈ tW) (hini : Cond.initialized Cn ∈ tW) (hfs : ∀ j, j < N → defaultValue (tyG ci j) = vp_V fs j) (hl : cal (M_own y) idx2 = some (12, y')) (hv : iOk y y' 0 = true) (hvoid : M_rt y' = none) (hrest : Nat.ble ((Value.ref (B + cnt) :: st).map fun v => v.category).sum 8 = true) (hcnt : cnt = n + L.length) (hC : ∀ h, CtJ G B y' [.ref (B + cnt)] (cnt + 1) (gl h cnt [ob ci fs]) mc' ms' (eqP none cnt' (gl h cnt M))) (K : JJ X G B y (pc + 7) lv (.ref (B + cnt) :: st) cnt' (gl h n (L ++ M)) kc ks post) : JJ X G B y pc lv st cnt (gl h n L) (kc + mc' + 1) (ks + ms' + N) post := by
  refine jj_new fs hd1 hq hcl hin hini hfs ?_
  refine jj_s (pc' := pc + 4) hd2 rfl ?_
  refine jj_h gl_one ?_
  refine jj_ing (as := []) hd3 hl hv hvoid rfl rfl hrest (hC _) ?_
  subst hcnt
  exact jj_h gl_gl K
theorem tw_in1 : Cond.instantiable RX1 3 ∈ tW := tm1 174 rfl rfl
theorem tw_ii1 : Cond.initialized RX1 ∈ tW := tm1 6 rfl rfl
theorem tw_ol1 : Cond.methodLink RX1 3 objectInit ∈ tW := tm1 178 rfl rfl
theorem dfl1 : ∀ j, j < 3 → defaultValue (tyG 1 j) = vp_V [.null, .null, .null] j := (fun j hj => by
    have hz : j = 0 ∨ j = 1 ∨ j = 2 := by omega
    rcases hz with rfl | rfl | rfl <;> rfl)
theorem tw_in2 : Cond.instantiable RX2 3 ∈ tW := tm1 190 rfl rfl
theorem tw_ii2 : Cond.initialized RX2 ∈ tW := tm1 7 rfl rfl
theorem tw_ol2 : Cond.methodLink RX2 3 objectInit ∈ tW := tm1 194 rfl rfl
theorem dfl2 : ∀ j, j < 3 → defaultValue (tyG 2 j) = vp_V [.null, .null, .null] j := (fun j hj => by
    have hz : j = 0 ∨ j = 1 ∨ j = 2 := by omega
    rcases hz with rfl | rfl | rfl <;> rfl)
theorem tw_in3 : Cond.instantiable RX3 4 ∈ tW := tm1 104 rfl rfl
theorem tw_ii3 : Cond.initialized RX3 ∈ tW := tm1 3 rfl rfl
theorem tw_ol3 : Cond.methodLink RX3 3 objectInit ∈ tW := tm1 108 rfl rfl
theorem dfl3 : ∀ j, j < 4 → defaultValue (tyG 3 j) = vp_V [.null, .null, .null, .null] j := (fun j hj => by
    have hz : j = 0 ∨ j = 1 ∨ j = 2 ∨ j = 3 := by omega
    rcases hz with rfl | rfl | rfl | rfl <;> rfl)
theorem tw_in4 : Cond.instantiable RX4 8 ∈ tW := tm1 141 rfl rfl
theorem tw_ii4 : Cond.initialized RX4 ∈ tW := tm1 5 rfl rfl
theorem tw_ol4 : Cond.methodLink RX4 3 objectInit ∈ tW := tm1 145 rfl rfl
theorem dfl4 : ∀ j, j < 8 → defaultValue (tyG 4 j) = vp_V [.int 0, .null, .null, .null, .int 0, .int 0, .int 0, .int 0] j := (fun j hj => by
    have hz : j = 0 ∨ j = 1 ∨ j = 2 ∨ j = 3 ∨ j = 4 ∨ j = 5 ∨ j = 6 ∨ j = 7 := by omega
    rcases hz with rfl | rfl | rfl | rfl | rfl | rfl | rfl | rfl <;> rfl)
theorem tw_in5 : Cond.instantiable RX5 18 ∈ tW := tm1 23 rfl rfl
theorem tw_ii5 : Cond.initialized RX5 ∈ tW := tm1 2 rfl rfl
theorem tw_ol5 : Cond.methodLink RX5 3 objectInit ∈ tW := tm1 27 rfl rfl
theorem dfl5 : ∀ j, j < 18 → defaultValue (tyG 5 j) = vp_V [.int 0, .int 0, .int 0, .int 0, .int 0, .null, .null, .null, .null, .null, .null, .null, .null, .null, .null, .null, .null, .null] j := (fun j hj => by
    have hz : j = 0 ∨ j = 1 ∨ j = 2 ∨ j = 3 ∨ j = 4 ∨ j = 5 ∨ j = 6 ∨ j = 7 ∨ j = 8 ∨ j = 9 ∨ j = 10 ∨ j = 11 ∨ j = 12 ∨ j = 13 ∨ j = 14 ∨ j = 15 ∨ j = 16 ∨ j = 17 := by omega
    rcases hz with rfl | rfl | rfl | rfl | rfl | rfl | rfl | rfl | rfl | rfl | rfl | rfl | rfl | rfl | rfl | rfl | rfl | rfl <;> rfl)
theorem tw_in6 : Cond.instantiable RX6 4 ∈ tW := tm1 207 rfl rfl
theorem tw_ii6 : Cond.initialized RX6 ∈ tW := tm1 8 rfl rfl
theorem tw_ol6 : Cond.methodLink RX6 3 objectInit ∈ tW := tm1 211 rfl rfl
theorem dfl6 : ∀ j, j < 4 → defaultValue (tyG 6 j) = vp_V [.int 0, .null, .null, .int 0] j := (fun j hj => by
    have hz : j = 0 ∨ j = 1 ∨ j = 2 ∨ j = 3 := by omega
    rcases hz with rfl | rfl | rfl | rfl <;> rfl)
theorem tw_in7 : Cond.instantiable RX7 3 ∈ tW := tm1 123 rfl rfl
theorem tw_ii7 : Cond.initialized RX7 ∈ tW := tm1 4 rfl rfl
theorem tw_ol7 : Cond.methodLink RX7 3 objectInit ∈ tW := tm1 127 rfl rfl
theorem dfl7 : ∀ j, j < 3 → defaultValue (tyG 7 j) = vp_V [.int 0, .null, .null] j := (fun j hj => by
    have hz : j = 0 ∨ j = 1 ∨ j = 2 := by omega
    rcases hz with rfl | rfl | rfl <;> rfl)
theorem tw_in8 : Cond.instantiable RX8 8 ∈ tW := tm1 15 rfl rfl
theorem tw_ii8 : Cond.initialized RX8 ∈ tW := tm1 1 rfl rfl
theorem tw_ol8 : Cond.methodLink RX8 1 objectInit ∈ tW := tm1 19 rfl rfl
theorem dfl8 : ∀ j, j < 8 → defaultValue (tyG 8 j) = vp_V [.null, .null, .null, .null, .null, .null, .null, .null] j := (fun j hj => by
    have hz : j = 0 ∨ j = 1 ∨ j = 2 ∨ j = 3 ∨ j = 4 ∨ j = 5 ∨ j = 6 ∨ j = 7 := by omega
    rcases hz with rfl | rfl | rfl | rfl | rfl | rfl | rfl | rfl <;> rfl)
theorem tw_in9 : Cond.instantiable RX9 26 ∈ tW := tm4 6 rfl rfl
theorem tw_ii9 : Cond.initialized RX9 ∈ tW := tm1 9 rfl rfl
theorem tw_ol9 : Cond.methodLink RX9 1 objectInit ∈ tW := tm4 10 rfl rfl
theorem dfl9 : ∀ j, j < 26 → defaultValue (tyG 9 j) = vp_V [.null, .null, .int 0, .null, .int 0, .null, .int 0, .int 0, .int 0, .null, .null, .null, .null, .null, .null, .null, .null, .null, .null, .null, .int 0, .int 0, .null, .null, .null, .int 0] j := (fun j hj => by
    have hz : j = 0 ∨ j = 1 ∨ j = 2 ∨ j = 3 ∨ j = 4 ∨ j = 5 ∨ j = 6 ∨ j = 7 ∨ j = 8 ∨ j = 9 ∨ j = 10 ∨ j = 11 ∨ j = 12 ∨ j = 13 ∨ j = 14 ∨ j = 15 ∨ j = 16 ∨ j = 17 ∨ j = 18 ∨ j = 19 ∨ j = 20 ∨ j = 21 ∨ j = 22 ∨ j = 23 ∨ j = 24 ∨ j = 25 := by omega
    rcases hz with rfl | rfl | rfl | rfl | rfl | rfl | rfl | rfl | rfl | rfl | rfl | rfl | rfl | rfl | rfl | rfl | rfl | rfl | rfl | rfl | rfl | rfl | rfl | rfl | rfl | rfl <;> rfl)
theorem tw_cl8_7 : Cond.classLink RX8 7 RX5 ∈ tW := tm1 22 rfl rfl
theorem tw_cl8_20 : Cond.classLink RX8 20 RX3 ∈ tW := tm1 103 rfl rfl
theorem tw_cl8_29 : Cond.classLink RX8 29 RX7 ∈ tW := tm1 122 rfl rfl
theorem tw_cl8_36 : Cond.classLink RX8 36 RX4 ∈ tW := tm1 140 rfl rfl
theorem tw_cl8_43 : Cond.classLink RX8 43 RX1 ∈ tW := tm1 173 rfl rfl
theorem tw_cl8_50 : Cond.classLink RX8 50 RX2 ∈ tW := tm1 189 rfl rfl
theorem tw_cl8_57 : Cond.classLink RX8 57 RX6 ∈ tW := tm1 206 rfl rfl
theorem tw_cl6_15 : Cond.classLink RX6 15 RX5 ∈ tW := tm1 212 rfl rfl
abbrev zr : AE := ia 20 (fun _ => 0)
def S0 : Nat → Int32 := fun k => if k = 3 then 9 else 0
abbrev F00 : Nat → Nat → Int32 := fun _ _ => 0
set_option maxHeartbeats 4000000 in
set_option maxRecDepth 100000 in
 theorem c_Qinit {G : GC} {B n : Nat} {h : HT} : CtJ G B M5_init [.ref (B + n)] (n + 1) (gl h n [ob 5 [.int 0, .int 0, .int 0, .int 0, .int 0, .null, .null, .null, .null, .null, .null, .null, .null, .null, .null, .null, .null, .null]]) 13 260 (eqP none (n + 14) (gl h n (ob 5 (qobj B n 0 S0) :: List.replicate 13 zr))) := by
  unfold CtJ
  refine jj_lv (lv' := [some (.ref (B + n))]) rfl ?_
  refine jj_s (pc' := 1) rfl rfl ?_
  refine jj_oinit rfl tw_ol5 tw_oi tw_oc (by decide) (by decide) ?_
  refine jj_s (pc' := 5) rfl rfl ?_
  refine jj_s (pc' := 6) rfl rfl ?_
  refine jj_pi rfl rfl rfl rfl rfl ?_
  refine jj_s (pc' := 10) rfl rfl ?_
  refine jj_s (pc' := 11) rfl rfl ?_
  refine jj_pi rfl rfl rfl rfl rfl ?_
  refine jj_s (pc' := 15) rfl rfl ?_
  refine jj_s (pc' := 16) rfl rfl ?_
  refine jj_pi rfl rfl rfl rfl rfl ?_
  refine jj_s (pc' := 20) rfl rfl ?_
  refine jj_s (pc' := 22) rfl rfl ?_
  refine jj_pi rfl rfl rfl rfl rfl ?_
  refine jj_s (pc' := 26) rfl rfl ?_
  refine jj_s (pc' := 27) rfl rfl ?_
  refine jj_pi rfl rfl rfl rfl rfl ?_
  refine jj_s (pc' := 31) rfl rfl ?_
  refine jj_s (pc' := 33) rfl rfl ?_
  refine jj_na 20 rfl rfl rfl rfl rfl rfl rfl rfl rfl (by decide) rfl rfl rfl ?_
  refine jj_s (pc' := 39) rfl rfl ?_
  refine jj_s (pc' := 41) rfl rfl ?_
  refine jj_na 20 rfl rfl rfl rfl rfl rfl rfl rfl rfl (by decide) rfl rfl rfl ?_
  refine jj_s (pc' := 47) rfl rfl ?_
  refine jj_s (pc' := 49) rfl rfl ?_
  refine jj_na 20 rfl rfl rfl rfl rfl rfl rfl rfl rfl (by decide) rfl rfl rfl ?_
  refine jj_s (pc' := 55) rfl rfl ?_
  refine jj_s (pc' := 57) rfl rfl ?_
  refine jj_na 20 rfl rfl rfl rfl rfl rfl rfl rfl rfl (by decide) rfl rfl rfl ?_
  refine jj_s (pc' := 63) rfl rfl ?_
  refine jj_s (pc' := 65) rfl rfl ?_
  refine jj_na 20 rfl rfl rfl rfl rfl rfl rfl rfl rfl (by decide) rfl rfl rfl ?_
  refine jj_s (pc' := 71) rfl rfl ?_
  refine jj_s (pc' := 73) rfl rfl ?_
  refine jj_na 20 rfl rfl rfl rfl rfl rfl rfl rfl rfl (by decide) rfl rfl rfl ?_
  refine jj_s (pc' := 79) rfl rfl ?_
  refine jj_s (pc' := 81) rfl rfl ?_
  refine jj_na 20 rfl rfl rfl rfl rfl rfl rfl rfl rfl (by decide) rfl rfl rfl ?_
  refine jj_s (pc' := 87) rfl rfl ?_
  refine jj_s (pc' := 89) rfl rfl ?_
  refine jj_na 20 rfl rfl rfl rfl rfl rfl rfl rfl rfl (by decide) rfl rfl rfl ?_
  refine jj_s (pc' := 95) rfl rfl ?_
  refine jj_s (pc' := 97) rfl rfl ?_
  refine jj_na 20 rfl rfl rfl rfl rfl rfl rfl rfl rfl (by decide) rfl rfl rfl ?_
  refine jj_s (pc' := 103) rfl rfl ?_
  refine jj_s (pc' := 105) rfl rfl ?_
  refine jj_na 20 rfl rfl rfl rfl rfl rfl rfl rfl rfl (by decide) rfl rfl rfl ?_
  refine jj_s (pc' := 111) rfl rfl ?_
  refine jj_s (pc' := 113) rfl rfl ?_
  refine jj_na 20 rfl rfl rfl rfl rfl rfl rfl rfl rfl (by decide) rfl rfl rfl ?_
  refine jj_s (pc' := 119) rfl rfl ?_
  refine jj_s (pc' := 121) rfl rfl ?_
  refine jj_na 20 rfl rfl rfl rfl rfl rfl rfl rfl rfl (by decide) rfl rfl rfl ?_
  refine jj_s (pc' := 127) rfl rfl ?_
  refine jj_s (pc' := 129) rfl rfl ?_
  refine jj_na 20 rfl rfl rfl rfl rfl rfl rfl rfl rfl (by decide) rfl rfl rfl ?_
  exact jj_vret rfl rfl ⟨rfl, rfl, rfl⟩
set_option maxHeartbeats 4000000 in
set_option maxRecDepth 100000 in
 theorem c_Winit {G : GC} {B n : Nat} {h : HT} : CtJ G B M7_init [.ref (B + n)] (n + 1) (gl h n [ob 7 [.int 0, .null, .null]]) 2 40 (eqP none (n + 3) (gl h n (wob B n 0 :: [zr, zr]))) := by
  unfold CtJ
  refine jj_lv (lv' := [some (.ref (B + n))]) rfl ?_
  refine jj_s (pc' := 1) rfl rfl ?_
  refine jj_oinit rfl tw_ol7 tw_oi tw_oc (by decide) (by decide) ?_
  refine jj_s (pc' := 5) rfl rfl ?_
  refine jj_s (pc' := 6) rfl rfl ?_
  refine jj_pi rfl rfl rfl rfl rfl ?_
  refine jj_s (pc' := 10) rfl rfl ?_
  refine jj_s (pc' := 12) rfl rfl ?_
  refine jj_na 20 rfl rfl rfl rfl rfl rfl rfl rfl rfl (by decide) rfl rfl rfl ?_
  refine jj_s (pc' := 18) rfl rfl ?_
  refine jj_s (pc' := 20) rfl rfl ?_
  refine jj_na 20 rfl rfl rfl rfl rfl rfl rfl rfl rfl (by decide) rfl rfl rfl ?_
  exact jj_vret rfl rfl ⟨rfl, rfl, rfl⟩
set_option maxHeartbeats 4000000 in
set_option maxRecDepth 100000 in
 theorem c_Linit {G : GC} {B n : Nat} {h : HT} : CtJ G B M4_init [.ref (B + n)] (n + 1) (gl h n [ob 4 [.int 0, .null, .null, .null, .int 0, .int 0, .int 0, .int 0]]) 3 60 (eqP none (n + 4) (gl h n (lob B n (fun _ => 0) :: [zr, zr, zr]))) := by
  unfold CtJ
  refine jj_lv (lv' := [some (.ref (B + n))]) rfl ?_
  refine jj_s (pc' := 1) rfl rfl ?_
  refine jj_oinit rfl tw_ol4 tw_oi tw_oc (by decide) (by decide) ?_
  refine jj_s (pc' := 5) rfl rfl ?_
  refine jj_s (pc' := 6) rfl rfl ?_
  refine jj_pi rfl rfl rfl rfl rfl ?_
  refine jj_s (pc' := 10) rfl rfl ?_
  refine jj_s (pc' := 12) rfl rfl ?_
  refine jj_na 20 rfl rfl rfl rfl rfl rfl rfl rfl rfl (by decide) rfl rfl rfl ?_
  refine jj_s (pc' := 18) rfl rfl ?_
  refine jj_s (pc' := 20) rfl rfl ?_
  refine jj_na 20 rfl rfl rfl rfl rfl rfl rfl rfl rfl (by decide) rfl rfl rfl ?_
  refine jj_s (pc' := 26) rfl rfl ?_
  refine jj_s (pc' := 28) rfl rfl ?_
  refine jj_na 20 rfl rfl rfl rfl rfl rfl rfl rfl rfl (by decide) rfl rfl rfl ?_
  refine jj_s (pc' := 34) rfl rfl ?_
  refine jj_s (pc' := 35) rfl rfl ?_
  refine jj_pi rfl rfl rfl rfl rfl ?_
  refine jj_s (pc' := 39) rfl rfl ?_
  refine jj_s (pc' := 40) rfl rfl ?_
  refine jj_pi rfl rfl rfl rfl rfl ?_
  refine jj_s (pc' := 44) rfl rfl ?_
  refine jj_s (pc' := 45) rfl rfl ?_
  refine jj_pi rfl rfl rfl rfl rfl ?_
  refine jj_s (pc' := 49) rfl rfl ?_
  refine jj_s (pc' := 50) rfl rfl ?_
  refine jj_pi rfl rfl rfl rfl rfl ?_
  exact jj_vret rfl rfl ⟨rfl, rfl, rfl⟩
set_option maxHeartbeats 4000000 in
set_option maxRecDepth 100000 in
 theorem c_Cinit {G : GC} {B n : Nat} {h : HT} : CtJ G B M1_init [.ref (B + n)] (n + 1) (gl h n [ob 1 [.null, .null, .null]]) 3 60 (eqP none (n + 4) (gl h n (cob B n :: [zr, zr, zr]))) := by
  unfold CtJ
  refine jj_lv (lv' := [some (.ref (B + n))]) rfl ?_
  refine jj_s (pc' := 1) rfl rfl ?_
  refine jj_oinit rfl tw_ol1 tw_oi tw_oc (by decide) (by decide) ?_
  refine jj_s (pc' := 5) rfl rfl ?_
  refine jj_s (pc' := 7) rfl rfl ?_
  refine jj_na 20 rfl rfl rfl rfl rfl rfl rfl rfl rfl (by decide) rfl rfl rfl ?_
  refine jj_s (pc' := 13) rfl rfl ?_
  refine jj_s (pc' := 15) rfl rfl ?_
  refine jj_na 20 rfl rfl rfl rfl rfl rfl rfl rfl rfl (by decide) rfl rfl rfl ?_
  refine jj_s (pc' := 21) rfl rfl ?_
  refine jj_s (pc' := 23) rfl rfl ?_
  refine jj_na 20 rfl rfl rfl rfl rfl rfl rfl rfl rfl (by decide) rfl rfl rfl ?_
  exact jj_vret rfl rfl ⟨rfl, rfl, rfl⟩
set_option maxHeartbeats 4000000 in
set_option maxRecDepth 100000 in
 theorem c_Oinit {G : GC} {B n : Nat} {h : HT} : CtJ G B M2_init [.ref (B + n)] (n + 1) (gl h n [ob 2 [.null, .null, .null]]) 3 4120 (eqP none (n + 4) (gl h n (oob B n :: [la 4096 (fun _ => 0), ia 12 (fun _ => 0), ia 12 (fun _ => 0)]))) := by
  unfold CtJ
  refine jj_lv (lv' := [some (.ref (B + n))]) rfl ?_
  refine jj_s (pc' := 1) rfl rfl ?_
  refine jj_oinit rfl tw_ol2 tw_oi tw_oc (by decide) (by decide) ?_
  refine jj_s (pc' := 5) rfl rfl ?_
  refine jj_s (pc' := 8) rfl rfl ?_
  refine jj_nl 4096 rfl rfl rfl rfl rfl rfl rfl rfl rfl (by decide) rfl rfl rfl ?_
  refine jj_s (pc' := 14) rfl rfl ?_
  refine jj_s (pc' := 16) rfl rfl ?_
  refine jj_na 12 rfl rfl rfl rfl rfl rfl rfl rfl rfl (by decide) rfl rfl rfl ?_
  refine jj_s (pc' := 22) rfl rfl ?_
  refine jj_s (pc' := 24) rfl rfl ?_
  refine jj_na 12 rfl rfl rfl rfl rfl rfl rfl rfl rfl (by decide) rfl rfl rfl ?_
  exact jj_vret rfl rfl ⟨rfl, rfl, rfl⟩
set_option maxHeartbeats 4000000 in
set_option maxRecDepth 100000 in
 theorem c_Pinit {G : GC} {B n : Nat} {h : HT} {q : Nat} : CtJ G B M3_init [.ref (B + n), .ref (B + q)] (n + 1) (gl h n [ob 3 [.null, .null, .null, .null]]) 3 60 (eqP none (n + 4) (gl h n (pob B n q :: [zr, zr, zr]))) := by
  unfold CtJ
  refine jj_lv (lv' := [some (.ref (B + n)), some (.ref (B + q))]) rfl ?_
  refine jj_s (pc' := 1) rfl rfl ?_
  refine jj_oinit rfl tw_ol3 tw_oi tw_oc (by decide) (by decide) ?_
  refine jj_s (pc' := 5) rfl rfl ?_
  refine jj_s (pc' := 7) rfl rfl ?_
  refine jj_na 20 rfl rfl rfl rfl rfl rfl rfl rfl rfl (by decide) rfl rfl rfl ?_
  refine jj_s (pc' := 13) rfl rfl ?_
  refine jj_s (pc' := 15) rfl rfl ?_
  refine jj_na 20 rfl rfl rfl rfl rfl rfl rfl rfl rfl (by decide) rfl rfl rfl ?_
  refine jj_s (pc' := 21) rfl rfl ?_
  refine jj_s (pc' := 23) rfl rfl ?_
  refine jj_na 20 rfl rfl rfl rfl rfl rfl rfl rfl rfl (by decide) rfl rfl rfl ?_
  refine jj_s (pc' := 29) rfl rfl ?_
  refine jj_s (pc' := 30) rfl rfl ?_
  refine jj_pr rfl rfl rfl rfl rfl rfl rfl rfl ?_
  exact jj_vret rfl rfl ⟨rfl, rfl, rfl⟩
set_option maxHeartbeats 4000000 in
set_option maxRecDepth 100000 in
 theorem c_Tinit {G : GC} {B n : Nat} {h : HT} : CtJ G B M6_init [.ref (B + n)] (n + 1) (gl h n [ob 6 [.int 0, .null, .null, .int 0]]) 15 478 (eqP none (n + 16) (gl h n (tob B n 0 0 :: (ob 5 (qobj B (n + 1) 0 S0) :: List.replicate 13 zr ++ [ia 200 (fun _ => 0)])))) := by
  unfold CtJ
  refine jj_lv (lv' := [some (.ref (B + n))]) rfl ?_
  refine jj_s (pc' := 1) rfl rfl ?_
  refine jj_oinit rfl tw_ol6 tw_oi tw_oc (by decide) (by decide) ?_
  refine jj_s (pc' := 5) rfl rfl ?_
  refine jj_s (pc' := 6) rfl rfl ?_
  refine jj_pi rfl rfl rfl rfl rfl ?_
  refine jj_s (pc' := 10) rfl rfl ?_
  refine jj_mkn (N := 18) [.int 0, .int 0, .int 0, .int 0, .int 0, .null, .null, .null, .null, .null, .null, .null, .null, .null, .null, .null, .null, .null] rfl rfl rfl rfl tw_cl6_15 tw_in5 tw_ii5 dfl5 rfl rfl rfl rfl rfl (fun h => c_Qinit) ?_
  refine jj_pr rfl rfl rfl rfl rfl rfl rfl rfl ?_
  refine jj_s (pc' := 21) rfl rfl ?_
  refine jj_s (pc' := 24) rfl rfl ?_
  refine jj_na 200 rfl rfl rfl rfl rfl rfl rfl rfl rfl (by decide) rfl rfl rfl ?_
  refine jj_s (pc' := 30) rfl rfl ?_
  refine jj_s (pc' := 31) rfl rfl ?_
  refine jj_pi rfl rfl rfl rfl rfl ?_
  exact jj_vret rfl rfl ⟨rfl, rfl, rfl⟩
