theorem jj_icmp_eq {X : State → Prop} {G : GC} {B : Nat} {y : MT} {pc : Nat} {lv : List (Option Value)} {st : List Value} {n : Nat} {h : HT} {kc ks : Nat} {post : Option Value → Nat → HT → Prop} {x w : Int32} {off : Int} (tgt : Nat) (hd : lk (M_tb y) pc = some (.if_icmp .eq off)) (ht : (pc : Int) + off = (tgt : Int))
    (kt : x = w → JJ X G B y tgt lv st n h kc ks post) (kf : ¬ x = w → JJ X G B y (pc + 3) lv st n h kc ks post) : JJ X G B y pc lv (.int w :: .int x :: st) n h kc ks post := by
  intro p l e R s m args below meth c H locs cells slots ls mc ms C P S L k1 k2 k3 k4
  have C0 := C
  obtain ⟨hx, hb, hr, hml, hown, hts, hlk, hnm, hK, hB, hfr, hlo, hT, hXW, hX, hCO, ho⟩ := C
  exact lv_icmp_eq hx hb (hT.at hd rfl) ht (fun q => kt q p l e R s m args below meth c H locs cells slots ls mc ms C0 P S L k1 k2 k3 k4) (fun q => kf q p l e R s m args below meth c H locs cells slots ls mc ms C0 P S L k1 k2 k3 k4)
theorem jj_icmp_ne {X : State → Prop} {G : GC} {B : Nat} {y : MT} {pc : Nat} {lv : List (Option Value)} {st : List Value} {n : Nat} {h : HT} {kc ks : Nat} {post : Option Value → Nat → HT → Prop} {x w : Int32} {off : Int} (tgt : Nat) (hd : lk (M_tb y) pc = some (.if_icmp .ne off)) (ht : (pc : Int) + off = (tgt : Int))
    (kt : ¬ x = w → JJ X G B y tgt lv st n h kc ks post) (kf : x = w → JJ X G B y (pc + 3) lv st n h kc ks post) : JJ X G B y pc lv (.int w :: .int x :: st) n h kc ks post := by
  intro p l e R s m args below meth c H locs cells slots ls mc ms C P S L k1 k2 k3 k4
  have C0 := C
  obtain ⟨hx, hb, hr, hml, hown, hts, hlk, hnm, hK, hB, hfr, hlo, hT, hXW, hX, hCO, ho⟩ := C
  exact lv_icmp_ne hx hb (hT.at hd rfl) ht (fun q => kt q p l e R s m args below meth c H locs cells slots ls mc ms C0 P S L k1 k2 k3 k4) (fun q => kf q p l e R s m args below meth c H locs cells slots ls mc ms C0 P S L k1 k2 k3 k4)
theorem jj_icmp_lt {X : State → Prop} {G : GC} {B : Nat} {y : MT} {pc : Nat} {lv : List (Option Value)} {st : List Value} {n : Nat} {h : HT} {kc ks : Nat} {post : Option Value → Nat → HT → Prop} {x w : Int32} {off : Int} (tgt : Nat) (hd : lk (M_tb y) pc = some (.if_icmp .lt off)) (ht : (pc : Int) + off = (tgt : Int))
    (kt : x < w → JJ X G B y tgt lv st n h kc ks post) (kf : ¬ x < w → JJ X G B y (pc + 3) lv st n h kc ks post) : JJ X G B y pc lv (.int w :: .int x :: st) n h kc ks post := by
  intro p l e R s m args below meth c H locs cells slots ls mc ms C P S L k1 k2 k3 k4
  have C0 := C
  obtain ⟨hx, hb, hr, hml, hown, hts, hlk, hnm, hK, hB, hfr, hlo, hT, hXW, hX, hCO, ho⟩ := C
  exact lv_icmp_lt hx hb (hT.at hd rfl) ht (fun q => kt q p l e R s m args below meth c H locs cells slots ls mc ms C0 P S L k1 k2 k3 k4) (fun q => kf q p l e R s m args below meth c H locs cells slots ls mc ms C0 P S L k1 k2 k3 k4)
theorem jj_icmp_ge {X : State → Prop} {G : GC} {B : Nat} {y : MT} {pc : Nat} {lv : List (Option Value)} {st : List Value} {n : Nat} {h : HT} {kc ks : Nat} {post : Option Value → Nat → HT → Prop} {x w : Int32} {off : Int} (tgt : Nat) (hd : lk (M_tb y) pc = some (.if_icmp .ge off)) (ht : (pc : Int) + off = (tgt : Int))
    (kt : w ≤ x → JJ X G B y tgt lv st n h kc ks post) (kf : ¬ w ≤ x → JJ X G B y (pc + 3) lv st n h kc ks post) : JJ X G B y pc lv (.int w :: .int x :: st) n h kc ks post := by
  intro p l e R s m args below meth c H locs cells slots ls mc ms C P S L k1 k2 k3 k4
  have C0 := C
  obtain ⟨hx, hb, hr, hml, hown, hts, hlk, hnm, hK, hB, hfr, hlo, hT, hXW, hX, hCO, ho⟩ := C
  exact lv_icmp_ge hx hb (hT.at hd rfl) ht (fun q => kt q p l e R s m args below meth c H locs cells slots ls mc ms C0 P S L k1 k2 k3 k4) (fun q => kf q p l e R s m args below meth c H locs cells slots ls mc ms C0 P S L k1 k2 k3 k4)
theorem jj_icmp_gt {X : State → Prop} {G : GC} {B : Nat} {y : MT} {pc : Nat} {lv : List (Option Value)} {st : List Value} {n : Nat} {h : HT} {kc ks : Nat} {post : Option Value → Nat → HT → Prop} {x w : Int32} {off : Int} (tgt : Nat) (hd : lk (M_tb y) pc = some (.if_icmp .gt off)) (ht : (pc : Int) + off = (tgt : Int))
    (kt : w < x → JJ X G B y tgt lv st n h kc ks post) (kf : ¬ w < x → JJ X G B y (pc + 3) lv st n h kc ks post) : JJ X G B y pc lv (.int w :: .int x :: st) n h kc ks post := by
  intro p l e R s m args below meth c H locs cells slots ls mc ms C P S L k1 k2 k3 k4
  have C0 := C
  obtain ⟨hx, hb, hr, hml, hown, hts, hlk, hnm, hK, hB, hfr, hlo, hT, hXW, hX, hCO, ho⟩ := C
  exact lv_icmp_gt hx hb (hT.at hd rfl) ht (fun q => kt q p l e R s m args below meth c H locs cells slots ls mc ms C0 P S L k1 k2 k3 k4) (fun q => kf q p l e R s m args below meth c H locs cells slots ls mc ms C0 P S L k1 k2 k3 k4)
theorem jj_icmp_le {X : State → Prop} {G : GC} {B : Nat} {y : MT} {pc : Nat} {lv : List (Option Value)} {st : List Value} {n : Nat} {h : HT} {kc ks : Nat} {post : Option Value → Nat → HT → Prop} {x w : Int32} {off : Int} (tgt : Nat) (hd : lk (M_tb y) pc = some (.if_icmp .le off)) (ht : (pc : Int) + off = (tgt : Int))
    (kt : x ≤ w → JJ X G B y tgt lv st n h kc ks post) (kf : ¬ x ≤ w → JJ X G B y (pc + 3) lv st n h kc ks post) : JJ X G B y pc lv (.int w :: .int x :: st) n h kc ks post := by
  intro p l e R s m args below meth c H locs cells slots ls mc ms C P S L k1 k2 k3 k4
  have C0 := C
  obtain ⟨hx, hb, hr, hml, hown, hts, hlk, hnm, hK, hB, hfr, hlo, hT, hXW, hX, hCO, ho⟩ := C
  exact lv_icmp_le hx hb (hT.at hd rfl) ht (fun q => kt q p l e R s m args below meth c H locs cells slots ls mc ms C0 P S L k1 k2 k3 k4) (fun q => kf q p l e R s m args below meth c H locs cells slots ls mc ms C0 P S L k1 k2 k3 k4)
theorem jj_if_eq {X : State → Prop} {G : GC} {B : Nat} {y : MT} {pc : Nat} {lv : List (Option Value)} {st : List Value} {n : Nat} {h : HT} {kc ks : Nat} {post : Option Value → Nat → HT → Prop} {x : Int32} {off : Int} (tgt : Nat) (hd : lk (M_tb y) pc = some (.ifCond .eq off)) (ht : (pc : Int) + off = (tgt : Int))
    (kt : x = 0 → JJ X G B y tgt lv st n h kc ks post) (kf : ¬ x = 0 → JJ X G B y (pc + 3) lv st n h kc ks post) : JJ X G B y pc lv (.int x :: st) n h kc ks post := by
  intro p l e R s m args below meth c H locs cells slots ls mc ms C P S L k1 k2 k3 k4
  have C0 := C
  obtain ⟨hx, hb, hr, hml, hown, hts, hlk, hnm, hK, hB, hfr, hlo, hT, hXW, hX, hCO, ho⟩ := C
  exact lv_if_eq hx hb (hT.at hd rfl) ht (fun q => kt q p l e R s m args below meth c H locs cells slots ls mc ms C0 P S L k1 k2 k3 k4) (fun q => kf q p l e R s m args below meth c H locs cells slots ls mc ms C0 P S L k1 k2 k3 k4)
theorem jj_if_ne {X : State → Prop} {G : GC} {B : Nat} {y : MT} {pc : Nat} {lv : List (Option Value)} {st : List Value} {n : Nat} {h : HT} {kc ks : Nat} {post : Option Value → Nat → HT → Prop} {x : Int32} {off : Int} (tgt : Nat) (hd : lk (M_tb y) pc = some (.ifCond .ne off)) (ht : (pc : Int) + off = (tgt : Int))
    (kt : ¬ x = 0 → JJ X G B y tgt lv st n h kc ks post) (kf : x = 0 → JJ X G B y (pc + 3) lv st n h kc ks post) : JJ X G B y pc lv (.int x :: st) n h kc ks post := by
  intro p l e R s m args below meth c H locs cells slots ls mc ms C P S L k1 k2 k3 k4
  have C0 := C
  obtain ⟨hx, hb, hr, hml, hown, hts, hlk, hnm, hK, hB, hfr, hlo, hT, hXW, hX, hCO, ho⟩ := C
  exact lv_if_ne hx hb (hT.at hd rfl) ht (fun q => kt q p l e R s m args below meth c H locs cells slots ls mc ms C0 P S L k1 k2 k3 k4) (fun q => kf q p l e R s m args below meth c H locs cells slots ls mc ms C0 P S L k1 k2 k3 k4)
theorem jj_if_lt {X : State → Prop} {G : GC} {B : Nat} {y : MT} {pc : Nat} {lv : List (Option Value)} {st : List Value} {n : Nat} {h : HT} {kc ks : Nat} {post : Option Value → Nat → HT → Prop} {x : Int32} {off : Int} (tgt : Nat) (hd : lk (M_tb y) pc = some (.ifCond .lt off)) (ht : (pc : Int) + off = (tgt : Int))
    (kt : x < 0 → JJ X G B y tgt lv st n h kc ks post) (kf : ¬ x < 0 → JJ X G B y (pc + 3) lv st n h kc ks post) : JJ X G B y pc lv (.int x :: st) n h kc ks post := by
  intro p l e R s m args below meth c H locs cells slots ls mc ms C P S L k1 k2 k3 k4
  have C0 := C
  obtain ⟨hx, hb, hr, hml, hown, hts, hlk, hnm, hK, hB, hfr, hlo, hT, hXW, hX, hCO, ho⟩ := C
  exact lv_if_lt hx hb (hT.at hd rfl) ht (fun q => kt q p l e R s m args below meth c H locs cells slots ls mc ms C0 P S L k1 k2 k3 k4) (fun q => kf q p l e R s m args below meth c H locs cells slots ls mc ms C0 P S L k1 k2 k3 k4)
theorem jj_if_ge {X : State → Prop} {G : GC} {B : Nat} {y : MT} {pc : Nat} {lv : List (Option Value)} {st : List Value} {n : Nat} {h : HT} {kc ks : Nat} {post : Option Value → Nat → HT → Prop} {x : Int32} {off : Int} (tgt : Nat) (hd : lk (M_tb y) pc = some (.ifCond .ge off)) (ht : (pc : Int) + off = (tgt : Int))
    (kt : 0 ≤ x → JJ X G B y tgt lv st n h kc ks post) (kf : ¬ 0 ≤ x → JJ X G B y (pc + 3) lv st n h kc ks post) : JJ X G B y pc lv (.int x :: st) n h kc ks post := by
  intro p l e R s m args below meth c H locs cells slots ls mc ms C P S L k1 k2 k3 k4
  have C0 := C
  obtain ⟨hx, hb, hr, hml, hown, hts, hlk, hnm, hK, hB, hfr, hlo, hT, hXW, hX, hCO, ho⟩ := C
  exact lv_if_ge hx hb (hT.at hd rfl) ht (fun q => kt q p l e R s m args below meth c H locs cells slots ls mc ms C0 P S L k1 k2 k3 k4) (fun q => kf q p l e R s m args below meth c H locs cells slots ls mc ms C0 P S L k1 k2 k3 k4)
theorem jj_if_gt {X : State → Prop} {G : GC} {B : Nat} {y : MT} {pc : Nat} {lv : List (Option Value)} {st : List Value} {n : Nat} {h : HT} {kc ks : Nat} {post : Option Value → Nat → HT → Prop} {x : Int32} {off : Int} (tgt : Nat) (hd : lk (M_tb y) pc = some (.ifCond .gt off)) (ht : (pc : Int) + off = (tgt : Int))
    (kt : 0 < x → JJ X G B y tgt lv st n h kc ks post) (kf : ¬ 0 < x → JJ X G B y (pc + 3) lv st n h kc ks post) : JJ X G B y pc lv (.int x :: st) n h kc ks post := by
  intro p l e R s m args below meth c H locs cells slots ls mc ms C P S L k1 k2 k3 k4
  have C0 := C
  obtain ⟨hx, hb, hr, hml, hown, hts, hlk, hnm, hK, hB, hfr, hlo, hT, hXW, hX, hCO, ho⟩ := C
  exact lv_if_gt hx hb (hT.at hd rfl) ht (fun q => kt q p l e R s m args below meth c H locs cells slots ls mc ms C0 P S L k1 k2 k3 k4) (fun q => kf q p l e R s m args below meth c H locs cells slots ls mc ms C0 P S L k1 k2 k3 k4)
theorem jj_if_le {X : State → Prop} {G : GC} {B : Nat} {y : MT} {pc : Nat} {lv : List (Option Value)} {st : List Value} {n : Nat} {h : HT} {kc ks : Nat} {post : Option Value → Nat → HT → Prop} {x : Int32} {off : Int} (tgt : Nat) (hd : lk (M_tb y) pc = some (.ifCond .le off)) (ht : (pc : Int) + off = (tgt : Int))
    (kt : x ≤ 0 → JJ X G B y tgt lv st n h kc ks post) (kf : ¬ x ≤ 0 → JJ X G B y (pc + 3) lv st n h kc ks post) : JJ X G B y pc lv (.int x :: st) n h kc ks post := by
  intro p l e R s m args below meth c H locs cells slots ls mc ms C P S L k1 k2 k3 k4
  have C0 := C
  obtain ⟨hx, hb, hr, hml, hown, hts, hlk, hnm, hK, hB, hfr, hlo, hT, hXW, hX, hCO, ho⟩ := C
  exact lv_if_le hx hb (hT.at hd rfl) ht (fun q => kt q p l e R s m args below meth c H locs cells slots ls mc ms C0 P S L k1 k2 k3 k4) (fun q => kf q p l e R s m args below meth c H locs cells slots ls mc ms C0 P S L k1 k2 k3 k4)
theorem jj_nn {X : State → Prop} {G : GC} {B : Nat} {y : MT} {pc : Nat} {lv : List (Option Value)} {st : List Value} {n : Nat} {h : HT} {kc ks : Nat} {post : Option Value → Nat → HT → Prop} {x : Nat} {off : Int} (tgt : Nat) (hd : lk (M_tb y) pc = some (.ifnonnull off)) (ht : (pc : Int) + off = (tgt : Int)) (k : JJ X G B y tgt lv st n h kc ks post) : JJ X G B y pc lv (.ref x :: st) n h kc ks post := by
  intro p l e R s m args below meth c H locs cells slots ls mc ms C P S L k1 k2 k3 k4
  have C0 := C
  obtain ⟨hx, hb, hr, hml, hown, hts, hlk, hnm, hK, hB, hfr, hlo, hT, hXW, hX, hCO, ho⟩ := C
  exact lv_ifnonnull hx hb (hT.at hd rfl) ht (k p l e R s m args below meth c H locs cells slots ls mc ms C0 P S L k1 k2 k3 k4)
theorem jj_nnN {X : State → Prop} {G : GC} {B : Nat} {y : MT} {pc : Nat} {lv : List (Option Value)} {st : List Value} {n : Nat} {h : HT} {kc ks : Nat} {post : Option Value → Nat → HT → Prop} {off : Int} (hd : lk (M_tb y) pc = some (.ifnonnull off)) (k : JJ X G B y (pc + 3) lv st n h kc ks post) : JJ X G B y pc lv (.null :: st) n h kc ks post := by
  intro p l e R s m args below meth c H locs cells slots ls mc ms C P S L k1 k2 k3 k4
  have C0 := C
  obtain ⟨hx, hb, hr, hml, hown, hts, hlk, hnm, hK, hB, hfr, hlo, hT, hXW, hX, hCO, ho⟩ := C
  exact lv_ifnonnullN hx hb (hT.at hd rfl) (k p l e R s m args below meth c H locs cells slots ls mc ms C0 P S L k1 k2 k3 k4)
theorem jj_lcmp {X : State → Prop} {G : GC} {B : Nat} {y : MT} {pc : Nat} {lv : List (Option Value)} {st : List Value} {n : Nat} {h : HT} {kc ks : Nat} {post : Option Value → Nat → HT → Prop} {x w : Int64} (hd : lk (M_tb y) pc = some .lcmp) (k : JJ X G B y (pc + 1) lv (.int (lg_cmp x w) :: st) n h kc ks post) : JJ X G B y pc lv (.long w :: .long x :: st) n h kc ks post := by
  intro p l e R s m args below meth c H locs cells slots ls mc ms C P S L k1 k2 k3 k4
  have C0 := C
  obtain ⟨hx, hb, hr, hml, hown, hts, hlk, hnm, hK, hB, hfr, hlo, hT, hXW, hX, hCO, ho⟩ := C
  exact W.lcmp hx hb (hT.at hd rfl) (k p l e R s m args below meth c H locs cells slots ls mc ms C0 P S L k1 k2 k3 k4)
theorem jj_ldc2 {X : State → Prop} {G : GC} {B : Nat} {y : MT} {pc : Nat} {lv : List (Option Value)} {st : List Value} {n : Nat} {h : HT} {kc ks : Nat} {post : Option Value → Nat → HT → Prop} {idx : Nat} {v : Int64} (hd : lk (M_tb y) pc = some (.ldc2_w idx)) (hc : Cond.constantLong (M_nm y).cls idx v ∈ tW) (k : JJ X G B y (pc + 3) lv (.long v :: st) n h kc ks post) : JJ X G B y pc lv st n h kc ks post := by
  intro p l e R s m args below meth c H locs cells slots ls mc ms C P S L k1 k2 k3 k4
  have C0 := C
  obtain ⟨hx, hb, hr, hml, hown, hts, hlk, hnm, hK, hB, hfr, hlo, hT, hXW, hX, hCO, ho⟩ := C
  exact lv_ldc2 hx hb hown (hts _ hc) (hT.at hd rfl) (k p l e R s m args below meth c H locs cells slots ls mc ms C0 P S L k1 k2 k3 k4)
theorem jj_ldcw {X : State → Prop} {G : GC} {B : Nat} {y : MT} {pc : Nat} {lv : List (Option Value)} {st : List Value} {n : Nat} {h : HT} {kc ks : Nat} {post : Option Value → Nat → HT → Prop} {idx : Nat} {v : Int32} (hd : lk (M_tb y) pc = some (.ldc_w idx)) (hc : Cond.constant (M_nm y).cls idx v ∈ tW) (k : JJ X G B y (pc + 3) lv (.int v :: st) n h kc ks post) : JJ X G B y pc lv st n h kc ks post := by
  intro p l e R s m args below meth c H locs cells slots ls mc ms C P S L k1 k2 k3 k4
  have C0 := C
  obtain ⟨hx, hb, hr, hml, hown, hts, hlk, hnm, hK, hB, hfr, hlo, hT, hXW, hX, hCO, ho⟩ := C
  exact lv_ldcw hx hb hown (hts _ hc) (hT.at hd rfl) (k p l e R s m args below meth c H locs cells slots ls mc ms C0 P S L k1 k2 k3 k4)
theorem jj_swOut {X : State → Prop} {G : GC} {B : Nat} {y : MT} {pc : Nat} {lv : List (Option Value)} {st : List Value} {n : Nat} {h : HT} {kc ks : Nat} {post : Option Value → Nat → HT → Prop} {x : Int32} {d lo hi : Int} {os : Array Int} (tgt : Nat) (hd : lk (M_tb y) pc = some (.tableswitch d lo hi os)) (hx0 : x.toInt < lo ∨ hi < x.toInt) (ht : (pc : Int) + d = (tgt : Int)) (k : JJ X G B y tgt lv st n h kc ks post) : JJ X G B y pc lv (.int x :: st) n h kc ks post := by
  intro p l e R s m args below meth c H locs cells slots ls mc ms C P S L k1 k2 k3 k4
  have C0 := C
  obtain ⟨hx, hb, hr, hml, hown, hts, hlk, hnm, hK, hB, hfr, hlo, hT, hXW, hX, hCO, ho⟩ := C
  obtain ⟨len, hd', -⟩ := hT _ _ hd
  exact lv_tableOut hx hb hd' hx0 ht (k p l e R s m args below meth c H locs cells slots ls mc ms C0 P S L k1 k2 k3 k4)
theorem jj_swIn {X : State → Prop} {G : GC} {B : Nat} {y : MT} {pc : Nat} {lv : List (Option Value)} {st : List Value} {n : Nat} {h : HT} {kc ks : Nat} {post : Option Value → Nat → HT → Prop} {x : Int32} {d lo hi off : Int} {os : Array Int} (tgt : Nat) (hd : lk (M_tb y) pc = some (.tableswitch d lo hi os)) (h1 : ¬ x.toInt < lo) (h2 : ¬ hi < x.toInt) (h3 : os[(x.toInt - lo).toNat]? = some off) (ht : (pc : Int) + off = (tgt : Int)) (k : JJ X G B y tgt lv st n h kc ks post) : JJ X G B y pc lv (.int x :: st) n h kc ks post := by
  intro p l e R s m args below meth c H locs cells slots ls mc ms C P S L k1 k2 k3 k4
  have C0 := C
  obtain ⟨hx, hb, hr, hml, hown, hts, hlk, hnm, hK, hB, hfr, hlo, hT, hXW, hX, hCO, ho⟩ := C
  obtain ⟨len, hd', -⟩ := hT _ _ hd
  exact lv_tableIn hx hb hd' h1 h2 h3 ht (k p l e R s m args below meth c H locs cells slots ls mc ms C0 P S L k1 k2 k3 k4)
theorem jj_get {X : State → Prop} {G : GC} {B : Nat} {y : MT} {pc : Nat} {lv : List (Option Value)} {st : List Value} {n : Nat} {h : HT} {kc ks : Nat} {post : Option Value → Nat → HT → Prop} {idx ci k a : Nat} {fs : List Value} {v : Value} (hd : lk (M_tb y) pc = some (.getfield idx)) (hf : FLc (M_own y) idx ci k) (hc : h a = some (ob ci fs)) (hv : fs[k]? = some v) (K : JJ X G B y (pc + 3) lv (v :: st) n h kc ks post) : JJ X G B y pc lv (.ref (B + a) :: st) n h kc ks post := by
  intro p l e R s m args below meth c H locs cells slots ls mc ms C P S L k1 k2 k3 k4
  have C0 := C
  obtain ⟨hx, hb, hr, hml, hown, hts, hlk, hnm, hK, hB, hfr, hlo, hT, hXW, hX, hCO, ho⟩ := C
  obtain ⟨⟨qC, qT, qN⟩, o, g1, g2, g3, g4⟩ := hf
  rw [ho o g2] at g4
  exact va_get hx hb hts (hCO ci _ g1).1 hown hK P.1 a (wd_get (P.2.2.lt hc) hc) g1 k g3 (hts _ g4) (fun _ z => z) hv (hT.at hd rfl) (K p l e R s m args below meth c H locs cells slots ls mc ms C0 P S L k1 k2 k3 k4)
/-- is a field final -/
def finG (ci k : Nat) : Bool := match clG[ci]? with
  | some q => (q.2.1 k).2.2.2
  | none => true
theorem jj_put {X : State → Prop} {G : GC} {B : Nat} {y : MT} {pc : Nat} {lv : List (Option Value)} {st : List Value} {n : Nat} {h : HT} {kc ks : Nat} {post : Option Value → Nat → HT → Prop} {idx ci k a : Nat} {fs : List Value} {x : Int32} (hd : lk (M_tb y) pc = some (.putfield idx)) (hf : FLc (M_own y) idx ci k) (hty : tyG ci k = .int) (hfin : finG ci k = false) (hc : h a = some (ob ci fs)) (hl : k < fs.length) (K : JJ X G B y (pc + 3) lv st n (hu h a (ob ci (fs.set k (.int x)))) kc ks post) : JJ X G B y pc lv (.int x :: .ref (B + a) :: st) n h kc ks post := by
  intro p l e R s m args below meth c H locs cells slots ls mc ms C P S L k1 k2 k3 k4
  have C0 := C
  obtain ⟨hx, hb, hr, hml, hown, hts, hlk, hnm, hK, hB, hfr, hlo, hT, hXW, hX, hCO, ho⟩ := C
  obtain ⟨⟨qC, qT, qN⟩, o, g1, g2, g3, g4⟩ := hf
  rw [ho o g2] at g4
  obtain ⟨c1, c2, c3⟩ := hCO ci _ g1
  have hfin : (qT k).2.2.2 = false := by unfold finG at hfin; rw [g1] at hfin; exact hfin
  have hdesc : parseFieldDescriptor (qT k).2.2.1 = some .int := by rw [← hty]; exact c2 k g3
  have he := wd_get (G := G) (B := B) (P.2.2.lt hc) hc
  have hap := va_apart (own := (M_nm y).cls) hts c1 (tyG ci) c2 c3 hK g1
  obtain ⟨r, h1, cell, q1, q2, q3, q4⟩ := P.1 a _ he
  have hr' : r = (qC, qT, qN) := Option.some.inj (h1.symm.trans g1)
  subst hr'
  obtain ⟨hS, hfc, kC, hkC, hkind⟩ := hK.1 ci _ g1
  obtain ⟨cf, kf, fi, f, hi, hsl⟩ := hS k g3
  have hlay := hts _ (c1 _ (u_in_lay g3))
  unfold u_lay at hlay
  rw [if_neg (by rw [hfin]; decide)] at hlay
  have hst := (u_facts hfc hkC (u_lays hts c1 g3) hi).1
  have h6 := u_store hfc hkC hkind hlay hi hdesc (v := .int x) rfl rfl
  refine W.putK hx hb (f := f) ⟨hown, hts _ g4, ⟨_, _, _, hi⟩, hst⟩ (by rw [q2]; exact h6) q1 q3 (by rw [hsl]; exact k2_hasslot (q4 k g3)) rfl rfl (hT.at hd rfl) fun H' e1 e2 e3 => ?_
  rw [hsl] at e1 ⊢
  have hP' := P.1.set (e := .inr (ci, fs.set k (.int x))) wd_D he ⟨_, g1, t_OB.to (V := updV (vp_V fs) k (.int x)) ⟨_, e1, q2, q3, t_set q4 hap g3 (.int x)⟩ (fun j _ => vp_updV_set hl (.int x) j)⟩ e3
  exact K p l e R s m args below meth c H' _ cells slots ls mc ms C0 ⟨by rw [← wd_set]; exact hP', by rw [e2]; exact P.2.1, P.2.2.set hc⟩ (S.put e2 e3 (Nat.le_add_right _ _)) L k1 k2 k3 k4
theorem jj_putF {X : State → Prop} {G : GC} {B : Nat} {y : MT} {pc : Nat} {lv : List (Option Value)} {st : List Value} {n : Nat} {h : HT} {kc ks : Nat} {post : Option Value → Nat → HT → Prop} {idx ci k a : Nat} {fs : List Value} {v : Value} (hd : lk (M_tb y) pc = some (.putfield idx)) (hf : FLc (M_own y) idx ci k) (hi0 : (M_nm y).name = "<init>") (hfin : finG ci k = true) (hdecl : ∀ q, clG[ci]? = some q → (q.2.1 k).1 = (M_nm y).cls) (hn : narrow (tyG ci k) v = v) (hfit : fits (tyG ci k) v = true) (hc : h a = some (ob ci fs)) (hl : k < fs.length) (K : JJ X G B y (pc + 3) lv st n (hu h a (ob ci (fs.set k v))) kc ks post) : JJ X G B y pc lv (v :: .ref (B + a) :: st) n h kc ks post := by
  intro p l e R s m args below meth c H locs cells slots ls mc ms C P S L k1 k2 k3 k4
  have C0 := C
  obtain ⟨hx, hb, hr, hml, hown, hts, hlk, hnm, hK, hB, hfr, hlo, hT, hXW, hX, hCO, ho⟩ := C
  obtain ⟨⟨qC, qT, qN⟩, o, g1, g2, g3, g4⟩ := hf
  rw [ho o g2] at g4
  have hdecl := hdecl _ g1
  obtain ⟨c1, c2, c3⟩ := hCO ci _ g1
  have hfin : (qT k).2.2.2 = true := by unfold finG at hfin; rw [g1] at hfin; exact hfin
  have he := wd_get (G := G) (B := B) (P.2.2.lt hc) hc
  have hap := va_apart (own := (M_nm y).cls) hts c1 (tyG ci) c2 c3 hK g1
  obtain ⟨r, h1, cell, q1, q2, q3, q4⟩ := P.1 a _ he
  have hr' : r = (qC, qT, qN) := Option.some.inj (h1.symm.trans g1)
  subst hr'
  obtain ⟨hS, hfc, kC, hkC, hkind⟩ := hK.1 ci _ g1
  obtain ⟨cf, kf, fi, f, hi, hsl⟩ := hS k g3
  have hlay := hts _ (c1 _ (u_in_lay g3))
  unfold u_lay at hlay
  rw [if_pos hfin] at hlay
  have hst := (u_facts hfc hkC (u_lays hts c1 g3) hi).1
  have hcf : m.cls = cf := by
    obtain ⟨_, _, c', _, _, _, -, -, hf', -, -, -, hown2, -⟩ := Cond.laysFinal_spec hlay
    have e1 : c' = cf := by have := hi.symm.trans hf'; simp at this; exact this.1.symm
    rw [hdecl] at hown2
    rw [← e1]; exact Option.some.inj (hown.symm.trans hown2)
  have h6 := u_fits hfc hkC hkind (Or.inr hlay) hi (c2 k g3) hn hfit
  refine W.putFinK hx hb hown (hts _ g4) hi hst hcf (by rw [hnm]; exact hi0) (by rw [q2]; exact h6) q1 q3 (by rw [hsl]; exact k2_hasslot (q4 k g3)) rfl rfl (hT.at hd rfl) fun H' e1 e2 e3 => ?_
  rw [hsl] at e1 ⊢
  have hP' := P.1.set (e := .inr (ci, fs.set k v)) wd_D he ⟨_, g1, t_OB.to (V := updV (vp_V fs) k v) ⟨_, e1, q2, q3, t_set q4 hap g3 v⟩ (fun j _ => vp_updV_set hl v j)⟩ e3
  exact K p l e R s m args below meth c H' _ cells slots ls mc ms C0 ⟨by rw [← wd_set]; exact hP', by rw [e2]; exact P.2.1, P.2.2.set hc⟩ (S.put e2 e3 (Nat.le_add_right _ _)) L k1 k2 k3 k4
theorem jj_iald {X : State → Prop} {G : GC} {B : Nat} {y : MT} {pc : Nat} {lv : List (Option Value)} {st : List Value} {n : Nat} {h : HT} {kc ks : Nat} {post : Option Value → Nat → HT → Prop} {a N : Nat} {f : Nat → Int32} {i : Int32} (hd : lk (M_tb y) pc = some .iaload) (hc : h a = some (ia N f)) (hi : vp_in i N) (K : JJ X G B y (pc + 1) lv (.int (f i.toNatClampNeg) :: st) n h kc ks post) : JJ X G B y pc lv (.int i :: .ref (B + a) :: st) n h kc ks post := by
  intro p l e R s m args below meth c H locs cells slots ls mc ms C P S L k1 k2 k3 k4
  have C0 := C
  obtain ⟨hx, hb, hr, hml, hown, hts, hlk, hnm, hK, hB, hfr, hlo, hT, hXW, hX, hCO, ho⟩ := C
  exact va_iald hx hb hK P.1 a 0 (wd_get (P.2.2.lt hc) hc) rfl hi (hT.at hd rfl) (K p l e R s m args below meth c H locs cells slots ls mc ms C0 P S L k1 k2 k3 k4)
theorem jj_lald {X : State → Prop} {G : GC} {B : Nat} {y : MT} {pc : Nat} {lv : List (Option Value)} {st : List Value} {n : Nat} {h : HT} {kc ks : Nat} {post : Option Value → Nat → HT → Prop} {a N : Nat} {f : Nat → Int64} {i : Int32} (hd : lk (M_tb y) pc = some .laload) (hc : h a = some (la N f)) (hi : vp_in i N) (K : JJ X G B y (pc + 1) lv (.long (f i.toNatClampNeg) :: st) n h kc ks post) : JJ X G B y pc lv (.int i :: .ref (B + a) :: st) n h kc ks post := by
  intro p l e R s m args below meth c H locs cells slots ls mc ms C P S L k1 k2 k3 k4
  have C0 := C
  obtain ⟨hx, hb, hr, hml, hown, hts, hlk, hnm, hK, hB, hfr, hlo, hT, hXW, hX, hCO, ho⟩ := C
  exact va_lald hx hb hK P.1 a 1 (wd_get (P.2.2.lt hc) hc) rfl hi (hT.at hd rfl) (K p l e R s m args below meth c H locs cells slots ls mc ms C0 P S L k1 k2 k3 k4)
theorem jj_aald {X : State → Prop} {G : GC} {B : Nat} {y : MT} {pc : Nat} {lv : List (Option Value)} {st : List Value} {n : Nat} {h : HT} {kc ks : Nat} {post : Option Value → Nat → HT → Prop} {a N : Nat} {f : Nat → Option Nat} {i : Int32} (hd : lk (M_tb y) pc = some .aaload) (hc : h a = some (qa N f)) (hi : vp_in i N) (K : JJ X G B y (pc + 1) lv (va_rf (f i.toNatClampNeg) :: st) n h kc ks post) : JJ X G B y pc lv (.int i :: .ref (B + a) :: st) n h kc ks post := by
  intro p l e R s m args below meth c H locs cells slots ls mc ms C P S L k1 k2 k3 k4
  have C0 := C
  obtain ⟨hx, hb, hr, hml, hown, hts, hlk, hnm, hK, hB, hfr, hlo, hT, hXW, hX, hCO, ho⟩ := C
  exact va_aldq hx hb hK P.1 a 2 (wd_get (P.2.2.lt hc) hc) rfl hi (hT.at hd rfl) (K p l e R s m args below meth c H locs cells slots ls mc ms C0 P S L k1 k2 k3 k4)
theorem jj_iast {X : State → Prop} {G : GC} {B : Nat} {y : MT} {pc : Nat} {lv : List (Option Value)} {st : List Value} {n : Nat} {h : HT} {kc ks : Nat} {post : Option Value → Nat → HT → Prop} {a N : Nat} {f : Nat → Int32} {i : Int32} {x : Int32} (hd : lk (M_tb y) pc = some .iastore) (hc : h a = some (ia N f)) (hi : vp_in i N) (K : JJ X G B y (pc + 1) lv st n (hu h a (ia N (upd f i.toNatClampNeg x))) kc ks post) : JJ X G B y pc lv (.int x :: .int i :: .ref (B + a) :: st) n h kc ks post := by
  intro p l e R s m args below meth c H locs cells slots ls mc ms C P S L k1 k2 k3 k4
  have C0 := C
  obtain ⟨hx, hb, hr, hml, hown, hts, hlk, hnm, hK, hB, hfr, hlo, hT, hXW, hX, hCO, ho⟩ := C
  have he := wd_get (G := G) (B := B) (P.2.2.lt hc) hc
  refine W.iast hx hb (P.1 a _ he) ((hK.2 0 _ rfl).1 N (fun j => .int (f j))) (fun q => by cases q) (by show ¬ (i < 0 ∨ (arrV _ _ _).slots.size ≤ _); rw [arrV_size]; exact hi) rfl rfl (hT.at hd rfl) fun H1 e1 z oq => ?_
  have hP' := P.1.set (e := cvE G (ia N (upd f i.toNatClampNeg x))) wd_D he ?_ oq
  · exact K p l e R s m args below meth c H1 _ cells slots ls mc ms C0 ⟨by rw [← wd_set]; exact hP', by rw [z]; exact P.2.1, P.2.2.set hc⟩ (S.put z oq (Nat.le_add_right _ _)) L k1 k2 k3 k4
  · show H1[B + a]? = some (vp_cell _ _)
    rw [e1]
    show some (Cell.setSlot (vp_cell _ _) _ _) = _
    rw [vp_cell_i, vp_cell_i, arrV_store]
    congr 2
    funext q
    by_cases hq : q = i.toNatClampNeg
    · subst hq
      simp [updV, upd]
    · simp [updV, upd, hq]
theorem jj_last {X : State → Prop} {G : GC} {B : Nat} {y : MT} {pc : Nat} {lv : List (Option Value)} {st : List Value} {n : Nat} {h : HT} {kc ks : Nat} {post : Option Value → Nat → HT → Prop} {a N : Nat} {f : Nat → Int64} {i : Int32} {x : Int64} (hd : lk (M_tb y) pc = some .lastore) (hc : h a = some (la N f)) (hi : vp_in i N) (K : JJ X G B y (pc + 1) lv st n (hu h a (la N (vp_updL f i.toNatClampNeg x))) kc ks post) : JJ X G B y pc lv (.long x :: .int i :: .ref (B + a) :: st) n h kc ks post := by
  intro p l e R s m args below meth c H locs cells slots ls mc ms C P S L k1 k2 k3 k4
  have C0 := C
  obtain ⟨hx, hb, hr, hml, hown, hts, hlk, hnm, hK, hB, hfr, hlo, hT, hXW, hX, hCO, ho⟩ := C
  have he := wd_get (G := G) (B := B) (P.2.2.lt hc) hc
  refine W.last hx hb (P.1 a _ he) ((hK.2 1 _ rfl).1 N (fun j => .long (f j))) (fun q => by cases q) (by show ¬ (i < 0 ∨ (arrV _ _ _).slots.size ≤ _); rw [arrV_size]; exact hi) rfl rfl (hT.at hd rfl) fun H1 e1 z oq => ?_
  have hP' := P.1.set (e := cvE G (la N (vp_updL f i.toNatClampNeg x))) wd_D he ?_ oq
  · exact K p l e R s m args below meth c H1 _ cells slots ls mc ms C0 ⟨by rw [← wd_set]; exact hP', by rw [z]; exact P.2.1, P.2.2.set hc⟩ (S.put z oq (Nat.le_add_right _ _)) L k1 k2 k3 k4
  · show H1[B + a]? = some (vp_cell _ _)
    rw [e1]
    show some (Cell.setSlot (vp_cell _ _) _ _) = _
    rw [vp_cell_l, vp_cell_l, arrV_store]
    congr 2
    funext q
    by_cases hq : q = i.toNatClampNeg
    · subst hq
      simp [updV, vp_updL]
    · simp [updV, vp_updL, hq]
theorem jj_iret {X : State → Prop} {G : GC} {B : Nat} {y : MT} {pc : Nat} {lv : List (Option Value)} {n : Nat} {h : HT} {kc ks : Nat} {post : Option Value → Nat → HT → Prop} {v : Int32} (hd : lk (M_tb y) pc = some .ireturn) (hrt : M_rt y = some .int) (hp : post (some (.int v)) n h) : JJ X G B y pc lv [.int v] n h kc ks post := by
  intro p l e R s m args below meth c H locs cells slots ls mc ms C P S L k1 k2 k3 k4
  have C0 := C
  obtain ⟨hx, hb, hr, hml, hown, hts, hlk, hnm, hK, hB, hfr, hlo, hT, hXW, hX, hCO, ho⟩ := C
  refine W.widen (k := mc) (n := ms) (by omega) (by omega) ?_
  exact W.iret hx hb (hr.trans hrt) (fun t ht hW => ⟨_, n, h, rfl, hp, by rw [ht]; exact P, by rw [ht]; exact S.1, fun q hq => by rw [ht]; exact S.2.1 q (by omega) (by omega)⟩) S.2.2 (hT.at hd rfl) hlk
theorem jj_zret {X : State → Prop} {G : GC} {B : Nat} {y : MT} {pc : Nat} {lv : List (Option Value)} {n : Nat} {h : HT} {kc ks : Nat} {post : Option Value → Nat → HT → Prop} {v : Int32} (hd : lk (M_tb y) pc = some .ireturn) (hrt : M_rt y = some .boolean) (hv : v = 0 ∨ v = 1) (hp : post (some (.int v)) n h) : JJ X G B y pc lv [.int v] n h kc ks post := by
  intro p l e R s m args below meth c H locs cells slots ls mc ms C P S L k1 k2 k3 k4
  have C0 := C
  obtain ⟨hx, hb, hr, hml, hown, hts, hlk, hnm, hK, hB, hfr, hlo, hT, hXW, hX, hCO, ho⟩ := C
  refine W.widen (k := mc) (n := ms) (by omega) (by omega) ?_
  exact W.zret hx hb (hr.trans hrt) (by rcases hv with rfl | rfl <;> rfl) (fun t ht hW => ⟨_, n, h, rfl, hp, by rw [ht]; exact P, by rw [ht]; exact S.1, fun q hq => by rw [ht]; exact S.2.1 q (by omega) (by omega)⟩) S.2.2 (hT.at hd rfl) hlk
theorem jj_lret {X : State → Prop} {G : GC} {B : Nat} {y : MT} {pc : Nat} {lv : List (Option Value)} {n : Nat} {h : HT} {kc ks : Nat} {post : Option Value → Nat → HT → Prop} {v : Int64} (hd : lk (M_tb y) pc = some .lreturn) (hrt : M_rt y = some .long) (hp : post (some (.long v)) n h) : JJ X G B y pc lv [.long v] n h kc ks post := by
  intro p l e R s m args below meth c H locs cells slots ls mc ms C P S L k1 k2 k3 k4
  have C0 := C
  obtain ⟨hx, hb, hr, hml, hown, hts, hlk, hnm, hK, hB, hfr, hlo, hT, hXW, hX, hCO, ho⟩ := C
  refine W.widen (k := mc) (n := ms) (by omega) (by omega) ?_
  exact W.lret hx hb (hr.trans hrt) (fun t ht hW => ⟨_, n, h, rfl, hp, by rw [ht]; exact P, by rw [ht]; exact S.1, fun q hq => by rw [ht]; exact S.2.1 q (by omega) (by omega)⟩) S.2.2 (hT.at hd rfl) hlk
theorem jj_vret {X : State → Prop} {G : GC} {B : Nat} {y : MT} {pc : Nat} {lv : List (Option Value)} {n : Nat} {h : HT} {kc ks : Nat} {post : Option Value → Nat → HT → Prop}  (hd : lk (M_tb y) pc = some .return_) (hrt : M_rt y = none) (hp : post none n h) : JJ X G B y pc lv [] n h kc ks post := by
  intro p l e R s m args below meth c H locs cells slots ls mc ms C P S L k1 k2 k3 k4
  have C0 := C
  obtain ⟨hx, hb, hr, hml, hown, hts, hlk, hnm, hK, hB, hfr, hlo, hT, hXW, hX, hCO, ho⟩ := C
  refine W.widen (k := mc) (n := ms) (by omega) (by omega) ?_
  exact W.vret hx hb (hr.trans hrt) (fun t ht hW => ⟨_, n, h, rfl, hp, by rw [ht]; exact P, by rw [ht]; exact S.1, fun q hq => by rw [ht]; exact S.2.1 q (by omega) (by omega)⟩) S.2.2 (hT.at hd rfl) hlk
theorem jj_aret {X : State → Prop} {G : GC} {B : Nat} {y : MT} {pc : Nat} {lv : List (Option Value)} {n : Nat} {h : HT} {kc ks : Nat} {post : Option Value → Nat → HT → Prop} {v : Nat} {t : FieldType} (hd : lk (M_tb y) pc = some .areturn) (hrt : M_rt y = some (.array t)) (hp : post (some (.ref v)) n h) : JJ X G B y pc lv [.ref v] n h kc ks post := by
  intro p l e R s m args below meth c H locs cells slots ls mc ms C P S L k1 k2 k3 k4
  have C0 := C
  obtain ⟨hx, hb, hr, hml, hown, hts, hlk, hnm, hK, hB, hfr, hlo, hT, hXW, hX, hCO, ho⟩ := C
  refine W.widen (k := mc) (n := ms) (by omega) (by omega) ?_
  exact W.aret hx hb (hr.trans hrt) (Or.inr ⟨_, rfl⟩) (Or.inr ⟨_, rfl⟩) (fun t ht hW => ⟨_, n, h, rfl, hp, by rw [ht]; exact P, by rw [ht]; exact S.1, fun q hq => by rw [ht]; exact S.2.1 q (by omega) (by omega)⟩) S.2.2 (hT.at hd rfl) hlk
