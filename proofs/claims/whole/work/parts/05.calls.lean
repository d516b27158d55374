def eqP (r : Option Value) (n : Nat) (h : HT) : Option Value → Nat → HT → Prop := fun r1 n1 h1 => r1 = r ∧ n1 = n ∧ h1 = h
/-- a method's contract: from its entry -/
def CtJ (G : GC) (B : Nat) (y : MT) (av : List Value) (n : Nat) (h : HT) (mc ms : Nat) (post : Option Value → Nat → HT → Prop) : Prop := JJ X0 G B y 0 (av.map some ++ List.replicate (M_ml y - av.length) none) [] n h mc ms post
def PcJ (G : GC) (B n : Nat) (h : HT) (av : List Value) : Array Value → State → Prop := fun v U => v = av.toArray ∧ PicJ G B n h U.heap ∧ va_K G.1 clG (tysG G) U ∧ XW U
abbrev rmJ (y : MT) (mc ms : Nat) : Room := { frames := M_fr y, cells := mc, slots := ms, locals := M_lo y }
abbrev wsJ (y : MT) : List Cond := Cond.code (M_nm y) (M_by y) (M_ml y) (M_rt y) :: tW
theorem MetJ (l : Launch) {G : GC} {B : Nat} {y : MT} {av : List Value} {n : Nat} {h : HT} {mc ms : Nat} {post : Option Value → Nat → HT → Prop} (hok : MOk y) (hCO : ∀ ci q, clG[ci]? = some q → CO ci q) (ho : ∀ o, clG[M_own y]? = some o → o.1 = (M_nm y).cls) (hlen : av.length ≤ M_ml y) (hcat : ∀ v ∈ av, v.category = 1) (hc : CtJ G B y av n h mc ms post) :
    Met l (M_nm y) (wsJ y) (rmJ y mc ms) (PcJ G B n h av) (QJ G B post) mc ms (fun q => B ≤ q) := by
  refine Met.ofW (cc := M_by y) (maxL := M_ml y) (ret := M_rt y) hok.2.1 rfl ?_
  intro p e s m args below meth c s₁ Bd hml hv
  obtain ⟨rfl, hP, hK, hXW⟩ := hv
  have hts := atoms_spec (ws := wsJ y) Bd.pre
  rw [lg_entry_eq]
  exact hc p l e _ s m _ below meth c s.heap [] 0 0 _ mc ms ⟨Bd.exec, Bd.bytes, Bd.returns, hml, findClass_of_methodNamed Bd.named, fun w hw => hts w (List.mem_cons_of_mem _ hw), Bd.notSynchronized, (name_of_methodNamed Bd.named Bd.method).1, hK, by rw [hP.2.1]; omega, Nat.le_refl _, Nat.le_refl _, hok.1, hXW, trivial, hCO, ho⟩ hP va_S.rf (lvl.entry av hlen hcat) (by omega) (by omega) (Nat.le_refl _) (Nat.le_refl _)
theorem PcJ.blind {G : GC} {B n : Nat} {h : HT} {av : List Value} : FrameBlind (PcJ G B n h av) := by
  intro a U g mk q
  obtain ⟨q0, qP, qK, qX⟩ := q
  exact ⟨q0, qP, va_K.moved (u := U) (U := U.calling g mk a) (Vm.Alike.refl U.vm) qK, ⟨fun z hz => va_Nw.same rfl rfl (qX.1 z hz), va_AO.moved (u := U) (U := U.calling g mk a) (Vm.Alike.refl U.vm) qX.2⟩⟩
theorem gdW {ws : List Cond} (hw : ∀ w ∈ ws, w ∈ tW) : GoodIn tW ws := fun w h => tW_good w (hw w h)
theorem wsJ_in {y : MT} (hok : MOk y) : ∀ w ∈ wsJ y, w ∈ tW := fun w h => (List.mem_cons.mp h).elim (fun e => e ▸ hok.2.2.1) id
/-- behind a call -/
theorem jj_after {X : State → Prop} {G : GC} {B : Nat} {y : MT} {pc : Nat} {lv : List (Option Value)} {st rest : List Value} {n : Nat} {h : HT} {kc ks : Nat} {post : Option Value → Nat → HT → Prop} {mc' ms' n' : Nat} {h' : HT} {r : Option Value} {aa : Array Value} {p : Program} {l : Launch} {e : Env} {R : Room} {s : State} {m : MethodId} {args : Array Value} {below : List Frame} {meth : Method} {c : Code} {H : Heap} {locs : List Loc} {cells slots : Nat} {ls : Array Slot} {mc ms : Nat}
    (C0 : CxJ X G B y p R s m args meth c) (P : PicJ G B n h H) (S : va_S (fun q => B ≤ q) s.heap H locs) (L : lvl ls (M_ml y) lv) (k1 : cells + kc ≤ mc) (k2 : slots + ks ≤ ms) (k3 : mc ≤ R.cells) (k4 : ms ≤ R.slots) (hb1 : mc' ≤ kc) (hb2 : ms' ≤ ks)
    (run : va_Run p l e R s m args below meth c H locs cells slots mc' ms' (F0 m pc ls st) rest (QJ G B (eqP r n' h') aa) (fun q => B ≤ q))
    (K : JJ X G B y (pc + 3) lv (r.toList ++ rest) n' h' (kc - mc') (ks - ms') post) : W p l e R s m args below meth c H locs cells slots (MQ below (QJ G B post) args s mc ms (fun q => B ≤ q)) (F0 m pc ls st) := by
  intro T hT0 X1
  obtain ⟨v, st₀, t, T', L1, h0, X', hL, e1, e2, ⟨r1, n1, h1, hv, hp, hPic, hsz, hfrm⟩, stp1⟩ := run T hT0 X1
  cases hv
  obtain ⟨rfl, rfl, rfl⟩ := hp
  rw [h0] at hsz hfrm
  obtain ⟨t2, a1, b1⟩ := K p l e R s m args below meth c T'.heap (locs ++ L1) (cells + mc') (slots + ms') ls mc ms C0 (by rw [e1]; exact hPic) ⟨by rw [e1]; exact Nat.le_trans S.1 hsz, fun q g1 g2 => by rw [e1, hfrm q (by omega)]; exact S.2.1 q g1 g2, fun q hq => by
      rcases List.mem_append.mp hq with h | h
      · exact S.2.2 q h
      · exact hL q h⟩ L (by omega) (by omega) k3 k4 T' rfl X'
  exact ⟨t2, stp1 t2 a1, b1⟩
def roomOk (y y' : MT) : Bool := decide (M_fr y' + 1 ≤ M_fr y) && decide (8 + (M_ml y' + 11) + M_lo y' ≤ M_lo y)
theorem roomOk.use {y y' : MT} {R : Room} (h : roomOk y y' = true) (h1 : M_fr y ≤ R.frames) (h2 : M_lo y ≤ R.locals) : M_fr y' + 1 ≤ R.frames ∧ 8 + (M_ml y' + 11) + M_lo y' ≤ R.locals := by
  unfold roomOk at h
  rw [Bool.and_eq_true] at h
  exact ⟨Nat.le_trans (of_decide_eq_true h.1) h1, Nat.le_trans (of_decide_eq_true h.2) h2⟩
/-- a method of a class whose place in clG is its own -/
def OwnOk (y : MT) : Prop := ∀ o, clG[M_own y]? = some o → o.1 = (M_nm y).cls
def LkV (y : MT) (idx : Nat) (y' : MT) : Prop := Cond.methodLink (M_nm y).cls idx (M_nm y') ∈ tW ∧ Cond.instanceMethod (M_nm y') ∈ tW ∧ Cond.selects (M_nm y').cls (M_nm y') (M_nm y') ∈ tW
def LkS (y : MT) (idx : Nat) (y' : MT) : Prop := Cond.methodLink (M_nm y).cls idx (M_nm y') ∈ tW ∧ Cond.static (M_nm y') ∈ tW
def LkI (y : MT) (idx : Nat) (y' : MT) : Prop := Cond.methodLink (M_nm y).cls idx (M_nm y') ∈ tW ∧ Cond.instanceMethod (M_nm y') ∈ tW ∧ (M_nm y').name = "<init>"
def LkIN (y : MT) (idx : Nat) (y' : MT) : Prop := ((M_nm y).cls, idx, M_nm y', "DependencyQueue") ∈ nstL ∧ Cond.instanceMethod (M_nm y') ∈ tW ∧ (M_nm y').name = "<init>"
def LkSN (y : MT) (idx : Nat) (y' : MT) : Prop := ((M_nm y).cls, idx, M_nm y', "DependencyQueue") ∈ nstL ∧ Cond.static (M_nm y') ∈ tW
theorem wsV_in {y y' : MT} {idx : Nat} (hok : MOk y') (hl : LkV y idx y') : ∀ w ∈ wsV (M_nm y).cls idx (M_nm y').cls (M_nm y') (wsJ y'), w ∈ tW := by
  intro w hw
  unfold wsV at hw
  rcases List.mem_append.mp hw with hw | hw
  · simp only [List.mem_cons, List.not_mem_nil, or_false] at hw
    rcases hw with rfl | rfl | rfl | rfl
    · exact hl.1
    · exact hl.2.1
    · exact hl.2.2
    · exact hok.2.2.2.2.1
  · exact wsJ_in hok w hw
theorem jj_cV {X : State → Prop} {G : GC} {B : Nat} {y : MT} {pc : Nat} {lv : List (Option Value)} {st rest : List Value} {n : Nat} {h : HT} {kc ks : Nat} {post : Option Value → Nat → HT → Prop} {y' : MT} {idx mc' ms' n' : Nat} {h' : HT} {as : List Value} {r : Option Value} {a ci : Nat} {fs : List Value} (hd : lk (M_tb y) pc = some (.invokevirtual idx)) (hok : MOk y') (how : OwnOk y') (hrm : roomOk y y' = true) (hl : LkV y idx y') (hst : st = as.reverse ++ .ref (B + a) :: rest) (hc0 : h a = some (ob ci fs)) (hcl : (clG[ci]?).map (fun q => q.1) = some (M_nm y').cls) (hnp : as.length = M_np y') (hcat : ∀ v ∈ as, v.category = 1) (hfit : as.length + 1 ≤ M_ml y') (hrest : (rest.map fun v => v.category).sum ≤ 8) (hb1 : mc' ≤ kc) (hb2 : ms' ≤ ks)
    (hC : CtJ G B y' (.ref (B + a) :: as) n h mc' ms' (eqP r n' h')) (K : JJ X G B y (pc + 3) lv (r.toList ++ rest) n' h' (kc - mc') (ks - ms') post) : JJ X G B y pc lv st n h kc ks post := by
  intro p l e R s m args below meth c H locs cells slots ls mc ms C P S L k1 k2 k3 k4
  have C0 := C
  obtain ⟨hx, hb, hr, hml, hown, hts, hlk, hnm, hK, hB, hfr, hlo, hT, hXW, hX, hCO, ho⟩ := C
  have hM := MetJ l hok hCO how (av := (.ref (B + a) :: as)) (by simp; exact hfit) (fun v hv => (List.mem_cons.mp hv).elim (fun e => by rw [e]; rfl) (hcat v)) hC
  have hnp2 : (parseMethodDescriptor (M_nm y').desc).map (fun d => d.parameters.length) = some (M_np y') := hok.2.2.2.2.2
  subst hst
  obtain ⟨qq, g1, g2⟩ : ∃ qq, clG[ci]? = some qq ∧ qq.1 = (M_nm y').cls := by
    cases hq : clG[ci]? with
    | none => rw [hq] at hcl; cases hcl
    | some qq => rw [hq] at hcl; exact ⟨qq, rfl, Option.some.inj hcl⟩
  refine jj_after (mc' := mc') (ms' := ms') C0 P S L k1 k2 k3 k4 hb1 hb2 (va_runV (As := as) (rest := rest) ⟨hx, hb, hml, hown, hts⟩ hM (C := (M_nm y').cls) (cwV (ws' := tW) (M_np y') hts (gdW (wsV_in hok hl)) rfl rfl rfl ⟨rfl, hok.2.2.2.1.1, hok.2.2.2.1.2, hnp2⟩ (roomOk.use hrm hfr hlo)) ⟨PcJ.blind, (by rw [← g2]; exact va_recv hK P.1 (ci := ci) (q := qq) (q0 := a) g1 (wd_get (P.2.2.lt hc0) hc0)), fun U hU hW => ⟨rfl, by rw [hU]; exact P, va_K.moved hW.alike hK, XW.moved hW hXW⟩⟩ rfl hnp L.1 rfl (lv_room hrest) (hT.at hd rfl) ⟨by omega, by omega⟩) K
theorem jj_cS {X : State → Prop} {G : GC} {B : Nat} {y : MT} {pc : Nat} {lv : List (Option Value)} {st rest : List Value} {n : Nat} {h : HT} {kc ks : Nat} {post : Option Value → Nat → HT → Prop} {y' : MT} {idx mc' ms' n' : Nat} {h' : HT} {as : List Value} {r : Option Value}  (hd : lk (M_tb y) pc = some (.invokestatic idx)) (hok : MOk y') (how : OwnOk y') (hrm : roomOk y y' = true) (hl : LkS y idx y') (hst : st = as.reverse ++ rest)  (hnp : as.length = M_np y') (hcat : ∀ v ∈ as, v.category = 1) (hfit : as.length + 0 ≤ M_ml y') (hrest : (rest.map fun v => v.category).sum ≤ 8) (hb1 : mc' ≤ kc) (hb2 : ms' ≤ ks)
    (hC : CtJ G B y' as n h mc' ms' (eqP r n' h')) (K : JJ X G B y (pc + 3) lv (r.toList ++ rest) n' h' (kc - mc') (ks - ms') post) : JJ X G B y pc lv st n h kc ks post := by
  intro p l e R s m args below meth c H locs cells slots ls mc ms C P S L k1 k2 k3 k4
  have C0 := C
  obtain ⟨hx, hb, hr, hml, hown, hts, hlk, hnm, hK, hB, hfr, hlo, hT, hXW, hX, hCO, ho⟩ := C
  have hM := MetJ l hok hCO how (av := as) (by simpa using hfit) hcat hC
  have hnp2 : (parseMethodDescriptor (M_nm y').desc).map (fun d => d.parameters.length) = some (M_np y') := hok.2.2.2.2.2
  subst hst
  refine jj_after (mc' := mc') (ms' := ms') C0 P S L k1 k2 k3 k4 hb1 hb2 (va_runS (As := as) (rest := rest) ⟨hx, hb, hml, hown, hts⟩ hM ⟨callB_of (ws' := tW) (M_np y') hts (gdW (wsJ_in hok)) rfl rfl rfl (hts _ hok.2.2.2.2.1) (hts _ hl.1) ⟨hok.2.2.2.1.1, hok.2.2.2.1.2, hnp2⟩ (roomOk.use hrm hfr hlo), hts _ hl.2⟩ ⟨PcJ.blind, fun U hU hW => ⟨rfl, by rw [hU]; exact P, va_K.moved hW.alike hK, XW.moved hW hXW⟩⟩ rfl hnp L.1 rfl (lv_room hrest) (hT.at hd rfl) ⟨by omega, by omega⟩) K
theorem jj_cI {X : State → Prop} {G : GC} {B : Nat} {y : MT} {pc : Nat} {lv : List (Option Value)} {st rest : List Value} {n : Nat} {h : HT} {kc ks : Nat} {post : Option Value → Nat → HT → Prop} {y' : MT} {idx mc' ms' n' : Nat} {h' : HT} {as : List Value} {r : Option Value} {a : Nat} (hd : lk (M_tb y) pc = some (.invokespecial idx)) (hok : MOk y') (how : OwnOk y') (hrm : roomOk y y' = true) (hl : LkI y idx y') (hvoid : M_rt y' = none) (hst : st = as.reverse ++ .ref (B + a) :: rest)  (hnp : as.length = M_np y') (hcat : ∀ v ∈ as, v.category = 1) (hfit : as.length + 1 ≤ M_ml y') (hrest : (rest.map fun v => v.category).sum ≤ 8) (hb1 : mc' ≤ kc) (hb2 : ms' ≤ ks)
    (hC : CtJ G B y' (.ref (B + a) :: as) n h mc' ms' (eqP r n' h')) (K : JJ X G B y (pc + 3) lv (r.toList ++ rest) n' h' (kc - mc') (ks - ms') post) : JJ X G B y pc lv st n h kc ks post := by
  intro p l e R s m args below meth c H locs cells slots ls mc ms C P S L k1 k2 k3 k4
  have C0 := C
  obtain ⟨hx, hb, hr, hml, hown, hts, hlk, hnm, hK, hB, hfr, hlo, hT, hXW, hX, hCO, ho⟩ := C
  have hM := MetJ l hok hCO how (av := (.ref (B + a) :: as)) (by simp; exact hfit) (fun v hv => (List.mem_cons.mp hv).elim (fun e => by rw [e]; rfl) (hcat v)) hC
  have hnp2 : (parseMethodDescriptor (M_nm y').desc).map (fun d => d.parameters.length) = some (M_np y') := hok.2.2.2.2.2
  subst hst
  refine jj_after (mc' := mc') (ms' := ms') C0 P S L k1 k2 k3 k4 hb1 hb2 (va_runI (As := as) (rest := rest) ⟨hx, hb, hml, hown, hts⟩ hM ⟨callB_of (bytes := M_by y') (maxL := M_ml y') (ret := none) (ws' := tW) (M_np y') hts (gdW (wsJ_in hok)) (by rw [← hvoid]) rfl rfl (hts _ hok.2.2.2.2.1) (hts _ hl.1) ⟨hok.2.2.2.1.1, hok.2.2.2.1.2, hnp2⟩ (roomOk.use hrm hfr hlo), hl.2.2, hts _ hl.2.1⟩ ⟨PcJ.blind, fun U hU hW => ⟨rfl, by rw [hU]; exact P, va_K.moved hW.alike hK, XW.moved hW hXW⟩⟩ rfl hnp L.1 rfl (lv_room hrest) (hT.at hd rfl) ⟨by omega, by omega⟩) K
theorem jj_cIN {X : State → Prop} {G : GC} {B : Nat} {y : MT} {pc : Nat} {lv : List (Option Value)} {st rest : List Value} {n : Nat} {h : HT} {kc ks : Nat} {post : Option Value → Nat → HT → Prop} {y' : MT} {idx mc' ms' n' : Nat} {h' : HT} {as : List Value} {r : Option Value} {a : Nat} (hd : lk (M_tb y) pc = some (.invokespecial idx)) (hok : MOk y') (how : OwnOk y') (hrm : roomOk y y' = true) (hl : LkIN y idx y') (hvoid : M_rt y' = none) (hst : st = as.reverse ++ .ref (B + a) :: rest)  (hnp : as.length = M_np y') (hcat : ∀ v ∈ as, v.category = 1) (hfit : as.length + 1 ≤ M_ml y') (hrest : (rest.map fun v => v.category).sum ≤ 8) (hb1 : mc' ≤ kc) (hb2 : ms' ≤ ks)
    (hC : CtJ G B y' (.ref (B + a) :: as) n h mc' ms' (eqP r n' h')) (K : JJ X G B y (pc + 3) lv (r.toList ++ rest) n' h' (kc - mc') (ks - ms') post) : JJ X G B y pc lv st n h kc ks post := by
  intro p l e R s m args below meth c H locs cells slots ls mc ms C P S L k1 k2 k3 k4
  have C0 := C
  obtain ⟨hx, hb, hr, hml, hown, hts, hlk, hnm, hK, hB, hfr, hlo, hT, hXW, hX, hCO, ho⟩ := C
  have hM := MetJ l hok hCO how (av := (.ref (B + a) :: as)) (by simp; exact hfit) (fun v hv => (List.mem_cons.mp hv).elim (fun e => by rw [e]; rfl) (hcat v)) hC
  have hnp2 : (parseMethodDescriptor (M_nm y').desc).map (fun d => d.parameters.length) = some (M_np y') := hok.2.2.2.2.2
  subst hst
  refine jj_after (mc' := mc') (ms' := ms') C0 P S L k1 k2 k3 k4 hb1 hb2 (va_runIN (As := as) (rest := rest) ⟨hx, hb, hml, hown, hts⟩ hM ⟨va_cnB (bytes := M_by y') (maxL := M_ml y') (ret := none) (ws' := tW) (M_np y') hts (gdW (wsJ_in hok)) (by rw [← hvoid]) rfl rfl (hXW.1 _ hl.1) (hts _ hok.2.2.2.2.1) ⟨hok.2.2.2.1.1, hok.2.2.2.1.2, hnp2⟩ (roomOk.use hrm hfr hlo), hl.2.2, hts _ hl.2.1⟩ ⟨PcJ.blind, fun U hU hW => ⟨rfl, by rw [hU]; exact P, va_K.moved hW.alike hK, XW.moved hW hXW⟩⟩ rfl hnp L.1 rfl (lv_room hrest) (hT.at hd rfl) ⟨by omega, by omega⟩) K
theorem jj_cSN {X : State → Prop} {G : GC} {B : Nat} {y : MT} {pc : Nat} {lv : List (Option Value)} {st rest : List Value} {n : Nat} {h : HT} {kc ks : Nat} {post : Option Value → Nat → HT → Prop} {y' : MT} {idx mc' ms' n' : Nat} {h' : HT} {as : List Value} {r : Option Value}  (hd : lk (M_tb y) pc = some (.invokestatic idx)) (hok : MOk y') (how : OwnOk y') (hrm : roomOk y y' = true) (hl : LkSN y idx y') (hst : st = as.reverse ++ rest)  (hnp : as.length = M_np y') (hcat : ∀ v ∈ as, v.category = 1) (hfit : as.length + 0 ≤ M_ml y') (hrest : (rest.map fun v => v.category).sum ≤ 8) (hb1 : mc' ≤ kc) (hb2 : ms' ≤ ks)
    (hC : CtJ G B y' as n h mc' ms' (eqP r n' h')) (K : JJ X G B y (pc + 3) lv (r.toList ++ rest) n' h' (kc - mc') (ks - ms') post) : JJ X G B y pc lv st n h kc ks post := by
  intro p l e R s m args below meth c H locs cells slots ls mc ms C P S L k1 k2 k3 k4
  have C0 := C
  obtain ⟨hx, hb, hr, hml, hown, hts, hlk, hnm, hK, hB, hfr, hlo, hT, hXW, hX, hCO, ho⟩ := C
  have hM := MetJ l hok hCO how (av := as) (by simpa using hfit) hcat hC
  have hnp2 : (parseMethodDescriptor (M_nm y').desc).map (fun d => d.parameters.length) = some (M_np y') := hok.2.2.2.2.2
  subst hst
  refine jj_after (mc' := mc') (ms' := ms') C0 P S L k1 k2 k3 k4 hb1 hb2 (va_runSN (As := as) (rest := rest) ⟨hx, hb, hml, hown, hts⟩ hM ⟨va_cnB (ws' := tW) (M_np y') hts (gdW (wsJ_in hok)) rfl rfl rfl (hXW.1 _ hl.1) (hts _ hok.2.2.2.2.1) ⟨hok.2.2.2.1.1, hok.2.2.2.1.2, hnp2⟩ (roomOk.use hrm hfr hlo), hts _ hl.2, trivial⟩ ⟨PcJ.blind, fun U hU hW => ⟨rfl, by rw [hU]; exact P, va_K.moved hW.alike hK, XW.moved hW hXW⟩⟩ rfl hnp L.1 rfl (lv_room hrest) (hT.at hd rfl) ⟨by omega, by omega⟩) K
theorem jj_oinit {X : State → Prop} {G : GC} {B : Nat} {y : MT} {pc : Nat} {lv : List (Option Value)} {st : List Value} {n : Nat} {h : HT} {kc ks : Nat} {post : Option Value → Nat → HT → Prop} {idx a : Nat} (hd : lk (M_tb y) pc = some (.invokespecial idx)) (hl : Cond.methodLink (M_nm y).cls idx objectInit ∈ tW) (hi : Cond.instanceMethod objectInit ∈ tW) (hcd : Cond.code objectInit ⟨#[0xb1]⟩ 1 none ∈ tW) (hf1 : 1 ≤ M_fr y) (hf2 : (st.map fun v => v.category).sum + 12 ≤ M_lo y) (K : JJ X G B y (pc + 3) lv st n h kc ks post) : JJ X G B y pc lv (.ref a :: st) n h kc ks post := by
  intro p l e R s m args below meth c H locs cells slots ls mc ms C P S L k1 k2 k3 k4
  have C0 := C
  obtain ⟨hx, hb, hr, hml, hown, hts, hlk, hnm, hK, hB, hfr, hlo, hT, hXW, hX, hCO, ho⟩ := C
  exact W.objInit hx hb hown (hts _ hl) (hts _ hi) (hts _ hcd) rfl (by rw [hml]; exact L.1) rfl (hT.at hd rfl) (Nat.le_trans hf1 hfr) (by show 2 * 0 + _ + 12 ≤ _; omega) (K p l e R s m args below meth c H locs cells slots ls mc ms C0 P S L k1 k2 k3 k4)
theorem jj_max {X : State → Prop} {G : GC} {B : Nat} {y : MT} {pc : Nat} {lv : List (Option Value)} {st : List Value} {n : Nat} {h : HT} {kc ks : Nat} {post : Option Value → Nat → HT → Prop} {idx : Nat} {x w : Int32} (hd : lk (M_tb y) pc = some (.invokestatic idx)) (hl : Cond.methodLink (M_nm y).cls idx Lib.Math.max.name ∈ tW) (h1 : Cond.static Lib.Math.max.name ∈ tW) (h2 : Cond.initialized "java/lang/Math" ∈ tW) (h3 : Cond.code Lib.Math.max.name Lib.Math.max.code 2 (some .int) ∈ tW) (hf1 : 1 ≤ M_fr y) (hf2 : (st.map fun v => v.category).sum + 13 ≤ M_lo y) (K : JJ X G B y (pc + 3) lv (.int (if x < w then w else x) :: st) n h kc ks post) : JJ X G B y pc lv (.int w :: .int x :: st) n h kc ks post := by
  intro p l e R s m args below meth c H locs cells slots ls mc ms C P S L k1 k2 k3 k4
  have C0 := C
  obtain ⟨hx, hb, hr, hml, hown, hts, hlk, hnm, hK, hB, hfr, hlo, hT, hXW, hX, hCO, ho⟩ := C
  exact va_mmax hx hb (by rw [hml, L.1]) hown (hts _ hl) (hts _ h1) (hts _ h2) (hts _ h3) (Nat.le_trans hf1 hfr) (by omega) (by omega) (by omega) (hT.at hd rfl) (K p l e R s m args below meth c H locs cells slots ls mc ms C0 P S L k1 k2 k3 k4)
theorem jj_newi {X : State → Prop} {G : GC} {B : Nat} {y : MT} {pc : Nat} {lv : List (Option Value)} {st : List Value} {n : Nat} {h : HT} {kc ks : Nat} {post : Option Value → Nat → HT → Prop} {v : Int32} (N : Nat) (hd : lk (M_tb y) pc = some (.newarray .int)) (ha : Cond.arrayClass .int ∈ tW) (hn : ¬ v < 0) (hN : v.toNatClampNeg = N) (hby : N * 4 ≤ 536870912) (K : JJ X G B y (pc + 2) lv (.ref (B + n) :: st) (n + 1) (hu h n (ia N (fun _ => 0))) kc ks post) : JJ X G B y pc lv (.int v :: st) n h (kc + 1) (ks + N) post := by
  intro p l e R s m args below meth c H locs cells slots ls mc ms C P S L k1 k2 k3 k4
  have C0 := C
  obtain ⟨hx, hb, hr, hml, hown, hts, hlk, hnm, hK, hB, hfr, hlo, hT, hXW, hX, hCO, ho⟩ := C
  refine va_newaK (atype := .int) hx hb (hts _ ha) rfl (hT.at hd rfl) rfl hn hN hby (by omega) (by omega) P.2.1 fun H1 cA e1 z1 o1 hAr hNm => ?_
  have hcA : cA = G.2.1 := Option.some.inj (hNm.symm.trans (hK.2 0 _ rfl).2)
  subst hcA
  have hk : ∀ (k : Nat) (x : Nat × va_E), (wd G B n h)[k]? = some x → H1[x.1]? = H[x.1]? := fun k x hx => o1 x.1 (by have := (P.1 k x hx).lt; rw [P.2.1] at this; exact this)
  have hP' : va_P G.1 clG (wd G B n h ++ [(B + n, cvE G (ia N (fun _ => 0)))]) H1 := (P.1.kept hk).app (fun k x hx => by
    have hz : k < 1 := (List.getElem?_eq_some_iff.mp hx).1
    rw [show k = 0 by omega] at hx
    cases hx
    exact e1)
  exact K p l e R s m args below meth c H1 locs (cells + 1) (slots + N) ls mc ms C0 ⟨by rw [← wd_push]; exact hP', by rw [z1]; omega, P.2.2.push⟩ ⟨by rw [z1]; have := S.1; rw [P.2.1] at this; omega, fun q g1 g2 => by rw [o1 q (by have := S.1; rw [P.2.1] at this; omega)]; exact S.2.1 q g1 g2, S.2.2⟩ L (by omega) (by omega) k3 k4
theorem jj_newl {X : State → Prop} {G : GC} {B : Nat} {y : MT} {pc : Nat} {lv : List (Option Value)} {st : List Value} {n : Nat} {h : HT} {kc ks : Nat} {post : Option Value → Nat → HT → Prop} {v : Int32} (N : Nat) (hd : lk (M_tb y) pc = some (.newarray .long)) (ha : Cond.arrayClass .long ∈ tW) (hn : ¬ v < 0) (hN : v.toNatClampNeg = N) (hby : N * 8 ≤ 536870912) (K : JJ X G B y (pc + 2) lv (.ref (B + n) :: st) (n + 1) (hu h n (la N (fun _ => 0))) kc ks post) : JJ X G B y pc lv (.int v :: st) n h (kc + 1) (ks + N) post := by
  intro p l e R s m args below meth c H locs cells slots ls mc ms C P S L k1 k2 k3 k4
  have C0 := C
  obtain ⟨hx, hb, hr, hml, hown, hts, hlk, hnm, hK, hB, hfr, hlo, hT, hXW, hX, hCO, ho⟩ := C
  refine va_newaK (atype := .long) hx hb (hts _ ha) rfl (hT.at hd rfl) rfl hn hN hby (by omega) (by omega) P.2.1 fun H1 cA e1 z1 o1 hAr hNm => ?_
  have hcA : cA = G.2.2.1 := Option.some.inj (hNm.symm.trans (hK.2 1 _ rfl).2)
  subst hcA
  have hk : ∀ (k : Nat) (x : Nat × va_E), (wd G B n h)[k]? = some x → H1[x.1]? = H[x.1]? := fun k x hx => o1 x.1 (by have := (P.1 k x hx).lt; rw [P.2.1] at this; exact this)
  have hP' : va_P G.1 clG (wd G B n h ++ [(B + n, cvE G (la N (fun _ => 0)))]) H1 := (P.1.kept hk).app (fun k x hx => by
    have hz : k < 1 := (List.getElem?_eq_some_iff.mp hx).1
    rw [show k = 0 by omega] at hx
    cases hx
    exact e1)
  exact K p l e R s m args below meth c H1 locs (cells + 1) (slots + N) ls mc ms C0 ⟨by rw [← wd_push]; exact hP', by rw [z1]; omega, P.2.2.push⟩ ⟨by rw [z1]; have := S.1; rw [P.2.1] at this; omega, fun q g1 g2 => by rw [o1 q (by have := S.1; rw [P.2.1] at this; omega)]; exact S.2.1 q g1 g2, S.2.2⟩ L (by omega) (by omega) k3 k4
theorem jj_new {X : State → Prop} {G : GC} {B : Nat} {y : MT} {pc : Nat} {lv : List (Option Value)} {st : List Value} {n : Nat} {h : HT} {kc ks : Nat} {post : Option Value → Nat → HT → Prop} {idx ci N : Nat} {Cn : String} {Tn : u_T} (fs : List Value) (hd : lk (M_tb y) pc = some (.new idx)) (hq : clG[ci]? = some (Cn, Tn, N)) (hcl : Cond.classLink (M_nm y).cls idx Cn ∈ tW) (hin : Cond.instantiable Cn N ∈ tW) (hini : Cond.initialized Cn ∈ tW) (hfs : ∀ j, j < N → defaultValue (tyG ci j) = vp_V fs j) (K : JJ X G B y (pc + 3) lv (.ref (B + n) :: st) (n + 1) (hu h n (ob ci fs)) kc ks post) : JJ X G B y pc lv st n h (kc + 1) (ks + N) post := by
  intro p l e R s m args below meth c H locs cells slots ls mc ms C P S L k1 k2 k3 k4
  have C0 := C
  obtain ⟨hx, hb, hr, hml, hown, hts, hlk, hnm, hK, hB, hfr, hlo, hT, hXW, hX, hCO, ho⟩ := C
  have hKn := hK.1 ci _ hq
  obtain ⟨c1, c2, c3⟩ := hCO ci _ hq
  refine W.newcK hx hb hown (hts _ hcl) (hts _ hin) (hts _ hini) rfl (hT.at hd rfl) (by omega) (by omega) hKn.2.1 P.2.1 fun H1 kC hkC e1 z1 o1 => ?_
  have hk : ∀ (k : Nat) (x : Nat × va_E), (wd G B n h)[k]? = some x → H1[x.1]? = H[x.1]? := fun k x hx => o1 x.1 (by have := (P.1 k x hx).lt; rw [P.2.1] at this; exact this)
  have hP' : va_P G.1 clG (wd G B n h ++ [(B + n, cvE G (ob ci fs))]) H1 := (P.1.kept hk).app (fun k x hx => by
    have hz : k < 1 := (List.getElem?_eq_some_iff.mp hx).1
    rw [show k = 0 by omega] at hx
    cases hx
    exact ⟨_, hq, (u_born (tyG ci) hts c1 hKn hkC e1 c2).to hfs⟩)
  exact K p l e R s m args below meth c H1 locs (cells + 1) (slots + N) ls mc ms C0 ⟨by rw [← wd_push]; exact hP', by rw [z1]; omega, P.2.2.push⟩ ⟨by rw [z1]; have := S.1; rw [P.2.1] at this; omega, fun q g1 g2 => by rw [o1 q (by have := S.1; rw [P.2.1] at this; omega)]; exact S.2.1 q g1 g2, S.2.2⟩ L (by omega) (by omega) k3 k4
theorem jj_newq {X : State → Prop} {G : GC} {B : Nat} {y : MT} {pc : Nat} {lv : List (Option Value)} {st : List Value} {n : Nat} {h : HT} {kc ks : Nat} {post : Option Value → Nat → HT → Prop} {idx : Nat} {v : Int32} (N : Nat) (hd : lk (M_tb y) pc = some (.anewarray idx)) (hcl : Cond.classLink (M_nm y).cls idx "DependencyQueue$Queue" ∈ tW) (hn : ¬ v < 0) (hN : v.toNatClampNeg = N) (hby : N * 4 ≤ 536870912) (K : JJ X G B y (pc + 3) lv (.ref (B + n) :: st) (n + 1) (hu h n (qa N (fun _ => none))) kc ks post) : JJ X G B y pc lv (.int v :: st) n h (kc + 1) (ks + N) post := by
  intro p l e R s m args below meth c H locs cells slots ls mc ms C P S L k1 k2 k3 k4
  have C0 := C
  obtain ⟨hx, hb, hr, hml, hown, hts, hlk, hnm, hK, hB, hfr, hlo, hT, hXW, hX, hCO, ho⟩ := C
  subst hN
  refine W.anew hx hb hown (hts _ hcl) (va_AO.use hXW.2) rfl (hT.at hd rfl) rfl hn hby (by omega) (by omega) fun cA kA comp f1 f2 f3 f4 => ?_
  obtain ⟨kA', comp', q1, q2, q3, q4⟩ := (hK.2 2 _ rfl).2
  have hcA : cA = G.2.2.2 := Option.some.inj (f1.symm.trans q4)
  subst hcA
  generalize hH1 : H.push ({ cls := G.2.2.2, slots := Array.replicate v.toNatClampNeg .null, vm := .none } : Cell) = H1
  have z1 : H1.size = H.size + 1 := by rw [← hH1, Array.size_push]
  have e1 : H1[H.size]? = some (arrV G.2.2.2 v.toNatClampNeg (fun _ => .null)) := by rw [← hH1, Array.getElem?_push_size, ← arrV_new]
  have o1 : ∀ q : Nat, q < H.size → H1[q]? = H[q]? := fun q hq => by rw [← hH1, Array.getElem?_push, if_neg (Nat.ne_of_lt hq)]
  have hk : ∀ (k : Nat) (x : Nat × va_E), (wd G B n h)[k]? = some x → H1[x.1]? = H[x.1]? := fun k x hx => o1 x.1 ((P.1 k x hx).lt)
  have hP' : va_P G.1 clG (wd G B n h ++ [(B + n, cvE G (qa v.toNatClampNeg (fun _ => none)))]) H1 := (P.1.kept hk).app (fun k x hx => by
    have hz : k < 1 := (List.getElem?_eq_some_iff.mp hx).1
    rw [show k = 0 by omega] at hx
    cases hx
    rw [P.2.1] at e1
    exact e1)
  rw [P.2.1] at z1 ⊢
  exact K p l e R s m args below meth c H1 locs (cells + 1) (slots + v.toNatClampNeg) ls mc ms C0 ⟨by rw [← wd_push]; exact hP', by rw [z1]; omega, P.2.2.push⟩ ⟨by rw [z1]; have := S.1; rw [P.2.1] at this; omega, fun q g1 g2 => by rw [o1 q (by have := S.1; omega)]; exact S.2.1 q g1 g2, S.2.2⟩ L (by omega) (by omega) k3 k4
theorem jj_aast {X : State → Prop} {G : GC} {B : Nat} {y : MT} {pc : Nat} {lv : List (Option Value)} {st : List Value} {n : Nat} {h : HT} {kc ks : Nat} {post : Option Value → Nat → HT → Prop} {a a2 N : Nat} {vs : List Value} {f : Nat → Option Nat} {i : Int32} (hd : lk (M_tb y) pc = some .aastore) (hc : h a = some (qa N f)) (hc2 : h a2 = some (ob 5 vs)) (hi : vp_in i N) (K : JJ X G B y (pc + 1) lv st n (hu h a (qa N (va_up f i.toNatClampNeg (some (B + a2))))) kc ks post) : JJ X G B y pc lv (.ref (B + a2) :: .int i :: .ref (B + a) :: st) n h kc ks post := by
  intro p l e R s m args below meth c H locs cells slots ls mc ms C P S L k1 k2 k3 k4
  have C0 := C
  obtain ⟨hx, hb, hr, hml, hown, hts, hlk, hnm, hK, hB, hfr, hlo, hT, hXW, hX, hCO, ho⟩ := C
  have he := wd_get (G := G) (B := B) (P.2.2.lt hc) hc
  have he2 := wd_get (G := G) (B := B) (P.2.2.lt hc2) hc2
  have hlt : i.toNatClampNeg < N := Nat.not_le.mp fun q => hi (Or.inr q)
  have h0 : ¬ i < 0 := fun q => hi (Or.inl q)
  obtain ⟨r', hr', cellV, g1, g2, g3, -⟩ := P.1 a2 _ he2
  have hcls := (hK.1 5 _ rfl).2
  obtain ⟨kA, comp, q1, q2, q3, -⟩ := (hK.2 2 _ rfl).2
  have hcomp : comp = G.1.1 5 := Option.some.inj (q3.symm.trans hcls.1)
  subst hcomp
  obtain ⟨kC, hkC, -⟩ := hcls.2
  refine W.aast hx hb (P.1 a _ he) (fun q h => by cases h) (fun h => by cases h) q1 q2 rfl hkC ⟨h0, by show _ < (arrV _ _ _).slots.size; rw [arrV_size]; exact hlt⟩ g1 (fun q h => by rw [g3] at h; cases h) (by rw [g2]; exact hkC) (by rw [g2]; exact va_assign hcls) rfl rfl (hT.at hd rfl) fun H1 e1 z oq => ?_
  have hP' := P.1.set (e := cvE G (qa N (va_up f i.toNatClampNeg (some (B + a2))))) wd_D he ?_ oq
  · exact K p l e R s m args below meth c H1 _ cells slots ls mc ms C0 ⟨by rw [← wd_set]; exact hP', by rw [z]; exact P.2.1, P.2.2.set hc⟩ (S.put z oq (Nat.le_add_right _ _)) L k1 k2 k3 k4
  · show H1[B + a]? = some (vp_cell _ _)
    rw [e1]
    show some (Cell.setSlot (vp_cell _ _) _ _) = _
    rw [vp_cell_q, vp_cell_q, arrV_store]
    congr 2
    funext q
    by_cases hq : q = i.toNatClampNeg
    · subst hq
      simp [updV, va_up, va_rf]
    · simp [updV, va_up, hq]
