/-! cells that are alike: the same below their length -/
def smE (e e' : AE) : Prop := e = e' ∨ (∃ (n : Nat) (f f' : Nat → Int32), e = ia n f ∧ e' = ia n f' ∧ ∀ j, j < n → f j = f' j) ∨ ∃ (n : Nat) (f f' : Nat → Int64), e = la n f ∧ e' = la n f' ∧ ∀ j, j < n → f j = f' j
def smH (h h' : HT) : Prop := ∀ k, h k = h' k ∨ ∃ e e', h k = some e ∧ h' k = some e' ∧ smE e e'
theorem arrV_ext {c : ClassId} {n : Nat} {f f' : Nat → Value} (h : ∀ j, j < n → f j = f' j) : arrV c n f = arrV c n f' := by
  unfold arrV
  congr 1
  apply Array.ext
  · simp
  · intro i h1 h2
    simp at h1
    simp [h i h1]
theorem smE_at {G : GC} {e e' : AE} (hs : smE e e') {a : Nat} {H : Heap} (h : va_at G.1 clG (a, cvE G e) H) : va_at G.1 clG (a, cvE G e') H := by
  rcases hs with rfl | ⟨n, f, f', rfl, rfl, hf⟩ | ⟨n, f, f', rfl, rfl, hf⟩
  · exact h
  · have h1 : H[a]? = some (vp_cell G.2.1 (n, .inl f)) := h
    show H[a]? = some (vp_cell G.2.1 (n, .inl f'))
    rw [h1, vp_cell_i, vp_cell_i, arrV_ext (fun j hj => by rw [hf j hj])]
  · have h1 : H[a]? = some (vp_cell G.2.2.1 (n, .inr (.inl f))) := h
    show H[a]? = some (vp_cell G.2.2.1 (n, .inr (.inl f')))
    rw [h1, vp_cell_l, vp_cell_l, arrV_ext (fun j hj => by rw [hf j hj])]
theorem smH_pic {G : GC} {B n : Nat} {h h' : HT} (hs : smH h h') {H : Heap} (p : PicJ G B n h H) : PicJ G B n h' H := by
  obtain ⟨p1, p2, p3⟩ := p
  have hn : ∀ k, h' k = none ↔ h k = none := by
    intro k
    rcases hs k with e | ⟨e, e', g1, g2, -⟩
    · rw [e]
    · rw [g1, g2]; simp
  refine ⟨?_, p2, fun k => (hn k).trans (p3 k)⟩
  intro k q hq
  unfold wd at hq
  rw [List.getElem?_map] at hq
  cases h1 : (List.range n)[k]? with
  | none => rw [h1] at hq; cases hq
  | some a =>
    rw [h1] at hq
    have ha : a = k := by
      obtain ⟨_, g⟩ := List.getElem?_eq_some_iff.mp h1
      rw [← g, List.getElem_range]
    subst ha
    have han : a < n := by
      have := (List.getElem?_eq_some_iff.mp h1).1
      simpa using this
    have hq : (B + a, cvE G ((h' a).getD (.inr (0, [])))) = q := Option.some.inj hq
    subst hq
    cases hh : h a with
    | none => exact absurd ((p3 a).mp hh) (by omega)
    | some e =>
      have g := p1 a _ (wd_get (G := G) (B := B) han hh)
      rcases hs a with e1 | ⟨e1, e2, g1, g2, g3⟩
      · rw [← e1, hh]; exact g
      · rw [hh] at g1
        cases g1
        rw [g2]
        exact smE_at g3 g
theorem jj_sm {X : State → Prop} {G : GC} {B : Nat} {y : MT} {pc : Nat} {lv : List (Option Value)} {st : List Value} {n : Nat} {h h' : HT} {kc ks : Nat} {post : Option Value → Nat → HT → Prop} (hs : smH h h') (K : JJ X G B y pc lv st n h' kc ks post) : JJ X G B y pc lv st n h kc ks post := by
  intro p l e R s m args below meth c H locs cells slots ls mc ms C P S L k1 k2 k3 k4
  exact K p l e R s m args below meth c H locs cells slots ls mc ms C (smH_pic hs P) S L k1 k2 k3 k4
theorem smH_A {o m : Nat} {obj : AE} {P P' : Nat → Nat → Int32} {h : HT} (hp : ∀ j, j < m → ∀ i, i < 20 → P j i = P' j i) : smH (wA o m obj P h) (wA o m obj P' h) := by
  intro k
  unfold wA
  split
  next => exact Or.inl rfl
  next =>
    split
    next h2 => exact Or.inr ⟨_, _, rfl, rfl, Or.inr (Or.inl ⟨20, _, _, rfl, rfl, fun j hj => hp _ (by omega) j hj⟩)⟩
    next => exact Or.inl rfl
/-! ChainCover -/
abbrev cob (B o : Nat) : AE := ob 1 [.ref (B + (o + 1)), .ref (B + (o + 2)), .ref (B + (o + 3))]
def CP (nx pv : Nat → Option Nat) (O : Nat → Int32) : Nat → Nat → Int32 := fun j => if j = 0 then fun i => enc (nx i) else if j = 1 then fun i => enc (pv i) else if j = 2 then O else fun _ => 0
theorem CP_0 {nx pv : Nat → Option Nat} {O : Nat → Int32} {i : Nat} {v : Option Nat} : uF (CP nx pv O) 0 i (enc v) = CP (va_up nx i v) pv O := by
  funext a k
  rw [uF_at]
  unfold CP va_up
  by_cases h0 : a = 0
  · subst h0
    by_cases hk : k = i
    · subst hk; simp
    · simp [hk]
  · simp [h0]
theorem CP_1 {nx pv : Nat → Option Nat} {O : Nat → Int32} {i : Nat} {v : Option Nat} : uF (CP nx pv O) 1 i (enc v) = CP nx (va_up pv i v) O := by
  funext a k
  rw [uF_at]
  unfold CP va_up
  by_cases h0 : a = 1
  · subst h0
    by_cases hk : k = i
    · subst hk; simp
    · simp [hk]
  · by_cases h1 : a = 0 <;> simp [h0, h1]
theorem CP_2 {nx pv : Nat → Option Nat} {O : Nat → Int32} {i : Nat} {x : Int32} : uF (CP nx pv O) 2 i x = CP nx pv (upd O i x) := by
  funext a k
  rw [uF_at]
  unfold CP
  by_cases h0 : a = 0
  · simp [h0]
  · by_cases h1 : a = 1
    · simp [h1]
    · by_cases h2 : a = 2
      · subst h2
        by_cases hk : k = i
        · subst hk; simp [upd]
        · simp [hk, upd]
      · simp [h0, h1, h2]
/-- the lowest of a set -/
def lo (s : Int32) : Option Nat := if fdF (bt s) 20 0 < 20 then some (fdF (bt s) 20 0) else none
theorem lo_some {s : Int32} {j : Nat} (h : lo s = some j) : j < 20 ∧ bt s j = true := by
  unfold lo at h
  split at h
  next hlt => cases h; exact ⟨hlt, fdF_yes _ 20 0 (by omega)⟩
  next => cases h
theorem lo_none {s : Int32} (h : lo s = none) : ∀ j, j < 20 → bt s j = false := by
  intro j hj
  unfold lo at h
  split at h
  next => cases h
  next hlt => exact fdF_no (bt s) 20 0 j (by omega) (by omega)
set_option maxHeartbeats 4000000 in
set_option maxRecDepth 100000 in
 theorem c_lowestOf {G : GC} {B n : Nat} {h : HT} (s : Int32) : CtJ G B M1_lowestOf [.int s] n h 0 0 (eqP (some (.int (enc (lo s)))) n h) := by
  unfold CtJ
  refine jj_lv (lv' := [some (.int s), none]) rfl ?_
  refine jj_s (pc' := 1) rfl rfl ?_
  refine jj_s (pc' := 2) rfl rfl ?_
  have L : ∀ d k, k + d = 20 → fdF (bt s) 20 0 = fdF (bt s) d k → JJ X0 G B M1_lowestOf 2 [some (.int s), some (.int (nI k))] [] n h 0 0 (eqP (some (.int (enc (lo s)))) n h) := by
    intro d
    induction d with
    | zero =>
      intro k h1 h2
      have hk : k = 20 := by omega
      subst hk
      refine jj_s (pc' := 3) rfl rfl ?_
      refine jj_s (pc' := 5) rfl rfl ?_
      refine jj_icmp_ge 24 rfl rfl (fun c => ?_) (fun c => absurd (by decide) c)
      refine jj_s (pc' := 26) rfl rfl ?_
      have e : lo s = none := by unfold lo; rw [h2, fdF, if_neg (by omega)]
      exact jj_iret rfl rfl ⟨by rw [e]; rfl, rfl, rfl⟩
    | succ d ih =>
      intro k h1 h2
      refine jj_s (pc' := 3) rfl rfl ?_
      refine jj_s (pc' := 5) rfl rfl ?_
      refine jj_geN (b := 20) 24 rfl rfl (by omega) (by omega) (fun c => absurd c (by omega)) (fun c => ?_)
      refine jj_s (pc' := 9) rfl rfl ?_
      refine jj_s (pc' := 10) rfl rfl ?_
      refine jj_t2 rfl rfl rfl rfl rfl (c_has (by omega)) ?_
      refine jj_zT 18 rfl rfl (fun c2 => ?_) (fun c2 => ?_)
      · first | refine jj_inc rfl rfl ?_ | refine jj_s (pc' := 21) rfl rfl ?_
        refine jj_s (pc' := 2) rfl rfl ?_
        exact ih (k + 1) (by omega) (by rw [h2, fdF, if_neg (by rw [c2]; decide)])
      · refine jj_s (pc' := 17) rfl rfl ?_
        have e : lo s = some k := by unfold lo; rw [h2, fdF, if_pos c2, if_pos (by omega)]
        exact jj_iret rfl rfl ⟨by rw [e]; rfl, rfl, rfl⟩
  exact L 20 0 (by omega) rfl
/-- pairing along the way -/
def pa (og : Nat → Nat) : Nat → Option Nat → (Nat → Option Nat) → (Nat → Option Nat) → (Nat → Option Nat) × (Nat → Option Nat)
  | 0, _, nx, pv => (nx, pv)
  | _ + 1, none, nx, pv => (nx, pv)
  | m + 1, some i, nx, pv => pa og m (nx (og i)) (va_up nx (og i) (some i)) (va_up pv i (some (og i)))
set_option maxHeartbeats 4000000 in
set_option maxRecDepth 100000 in
 theorem c_pairAlong {G : GC} {B n : Nat} {h : HT} {o : Nat} {nx pv : Nat → Option Nat} {O : Nat → Int32} (og : Nat → Nat) (R : Nat → Prop) (hR : ∀ i, R i → i < 20 ∧ O i = nI (og i) ∧ og i < 20) (hn : ∀ i, R i → ∀ j, nx (og i) = some j → R j) {l : Nat} (hl : R l) : CtJ G B M1_pairAlong [.ref (B + o), .int (nI l)] n (wA o 3 (cob B o) (CP nx pv O) h) 0 0 (eqP none n (wA o 3 (cob B o) (CP (pa og 20 (some l) nx pv).1 (pa og 20 (some l) nx pv).2 O) h)) := by
  unfold CtJ
  refine jj_lv (lv' := [some (.ref (B + o)), some (.int (nI l)), none, none, none, none]) rfl ?_
  refine jj_s (pc' := 1) rfl rfl ?_
  refine jj_s (pc' := 2) rfl rfl ?_
  refine jj_s (pc' := 3) rfl rfl ?_
  refine jj_s (pc' := 4) rfl rfl ?_
  have L : ∀ m (t : Option Nat) (nx pv : Nat → Option Nat) z1 z2, m ≤ 20 → (∀ i, t = some i → R i) → (∀ i, R i → ∀ j, nx (og i) = some j → R j) → JJ X0 G B M1_pairAlong 4 [some (.ref (B + o)), some (.int (nI l)), some (.int (enc t)), some (.int (nI (20 - m))), z1, z2] [] n (wA o 3 (cob B o) (CP nx pv O) h) 0 0 (eqP none n (wA o 3 (cob B o) (CP (pa og m t nx pv).1 (pa og m t nx pv).2 O) h)) := by
    intro m
    induction m with
    | zero =>
      intro t nx pv z1 z2 h0 ht hn
      refine jj_s (pc' := 5) rfl rfl ?_
      refine jj_s (pc' := 7) rfl rfl ?_
      refine jj_icmp_ge 58 rfl rfl (fun c => ?_) (fun c => absurd (by decide) c)
      exact jj_vret rfl rfl ⟨rfl, rfl, rfl⟩
    | succ m ih =>
      intro t nx pv z1 z2 h0 ht hn
      refine jj_s (pc' := 5) rfl rfl ?_
      refine jj_s (pc' := 7) rfl rfl ?_
      refine jj_geN (b := 20) 58 rfl rfl (by omega) (by omega) (fun c => absurd c (by omega)) (fun c => ?_)
      cases t with
      | none =>
        refine jj_s (pc' := 11) rfl rfl ?_
        refine jj_s (pc' := 13) rfl rfl ?_
        refine jj_icmp_eq 58 rfl rfl (fun c2 => ?_) (fun c2 => absurd rfl c2)
        exact jj_vret rfl rfl ⟨rfl, rfl, rfl⟩
      | some i =>
        obtain ⟨r1, r2, r3⟩ := hR i (ht i rfl)
        refine jj_lv (lv' := [some (.ref (B + o)), some (.int (nI l)), some (.int (nI i)), some (.int (nI (20 - (m + 1)))), z1, z2]) rfl ?_
        refine jj_s (pc' := 11) rfl rfl ?_
        refine jj_s (pc' := 13) rfl rfl ?_
        refine jj_icmp_eq 58 rfl rfl (fun c2 => absurd c2 (enc_ne (by omega))) (fun c2 => ?_)
        refine jj_s (pc' := 17) rfl rfl ?_
        refine jj_g rfl rfl wA_o rfl ?_
        refine jj_s (pc' := 21) rfl rfl ?_
        refine jj_ald1 rfl (by decide) (by first | assumption | omega) ?_
        refine jj_s (pc' := 24) rfl rfl ?_
        refine jj_lv (lv' := [some (.ref (B + o)), some (.int (nI l)), some (.int (nI i)), some (.int (nI (20 - (m + 1)))), some (.int (nI (og i))), z2]) (by rw [← r2]; rfl) ?_
        refine jj_s (pc' := 25) rfl rfl ?_
        refine jj_g rfl rfl wA_o rfl ?_
        refine jj_s (pc' := 30) rfl rfl ?_
        refine jj_ald1 rfl (by decide) (by first | assumption | omega) ?_
        refine jj_s (pc' := 33) rfl rfl ?_
        refine jj_lv (lv' := [some (.ref (B + o)), some (.int (nI l)), some (.int (nI i)), some (.int (nI (20 - (m + 1)))), some (.int (nI (og i))), some (.int (enc (nx (og i))))]) rfl ?_
        refine jj_s (pc' := 34) rfl rfl ?_
        refine jj_g rfl rfl wA_o rfl ?_
        refine jj_s (pc' := 39) rfl rfl ?_
        refine jj_s (pc' := 40) rfl rfl ?_
        refine jj_ast1 rfl (by decide) (by first | assumption | omega) ?_
        refine jj_h (h' := wA o 3 (cob B o) (CP (va_up nx (og i) (some i)) pv O) h) (by rw [← CP_0]; rfl) ?_
        refine jj_s (pc' := 42) rfl rfl ?_
        refine jj_g rfl rfl wA_o rfl ?_
        refine jj_s (pc' := 46) rfl rfl ?_
        refine jj_s (pc' := 48) rfl rfl ?_
        refine jj_ast1 rfl (by decide) (by first | assumption | omega) ?_
        refine jj_h (h' := wA o 3 (cob B o) (CP (va_up nx (og i) (some i)) (va_up pv i (some (og i))) O) h) (by rw [← CP_1]; rfl) ?_
        refine jj_s (pc' := 51) rfl rfl ?_
        refine jj_s (pc' := 52) rfl rfl ?_
        first | refine jj_inc rfl rfl ?_ | refine jj_s (pc' := 55) rfl rfl ?_
        refine jj_s (pc' := 4) rfl rfl ?_
        refine jj_lv ?_ (ih (nx (og i)) (va_up nx (og i) (some i)) (va_up pv i (some (og i))) (some (.int (nI (og i)))) (some (.int (enc (nx (og i))))) (by omega) (fun j hj => hn i (ht i rfl) j hj) (fun a ha j hj => ?_))
        · rw [show 20 - (m + 1) + 1 = 20 - m by omega]; rfl
        · unfold va_up at hj
          split at hj
          next => cases hj; exact ht _ rfl
          next => exact hn a ha j hj
  exact L 20 (some l) nx pv none none (by omega) (fun i hi => by cases hi; exact hl) hn
/-- one turn of the search: the items from k on, d of them -/
def fnI (bf : Nat → Int32) (pv : Nat → Option Nat) (sk : Int32) : Nat → Nat → Int32 → Int32 → (Nat → Int32) → ((Int32 × Int32 × (Nat → Int32)) ⊕ (Nat × Int32 × (Nat → Int32)))
  | 0, _, u, rb, O => .inl (u, rb, O)
  | d + 1, k, u, rb, O => match (if bt u k = true then lo (sk &&& bf k) else none) with
    | none => fnI bf pv sk d (k + 1) u rb O
    | some s => match pv k with
      | none => .inr (k, u &&& (bit k ^^^ -1), upd O k (nI s))
      | some p => fnI bf pv sk d (k + 1) (u &&& (bit k ^^^ -1)) (rb ||| bit p) (upd O k (nI s))
/-- the search: where it ends (if it finds one), what is unreached then, the origins -/
def fnC (r : (Int32 × Int32 × (Nat → Int32)) ⊕ (Nat × Int32 × (Nat → Int32))) (g : Int32 → Int32 → (Nat → Int32) → (Option Nat × Int32 × (Nat → Int32))) : Option Nat × Int32 × (Nat → Int32) := match r with
  | .inl (u', rb, O') => g u' rb O'
  | .inr (k, u', O') => (some k, u', O')
def fnO (bf : Nat → Int32) (pv : Nat → Option Nat) : Nat → Int32 → Int32 → (Nat → Int32) → (Option Nat × Int32 × (Nat → Int32))
  | 0, u, _, O => (none, u, O)
  | m + 1, u, sk, O => if sk = 0 then (none, u, O) else fnC (fnI bf pv sk 20 0 u 0 O) (fun u' rb O' => fnO bf pv m u' rb O')
abbrev fnG (bf : Nat → Int32) (pv : Nat → Option Nat) (m : Nat) (r : (Int32 × Int32 × (Nat → Int32)) ⊕ (Nat × Int32 × (Nat → Int32))) : Option Nat × Int32 × (Nat → Int32) := fnC r (fun u' rb O' => fnO bf pv m u' rb O')
/-- reached ones have an origin that is the first, or was robbed -/
def rch (op u : Int32) (j : Nat) : Prop := j < 20 ∧ bt op j = true ∧ bt u j = false
def okO (f : Nat) (op : Int32) (pv : Nat → Option Nat) (u : Int32) (O : Nat → Int32) : Prop := ∀ i, rch op u i → ∃ s, s < 20 ∧ O i = nI s ∧ (s = f ∨ ∃ j, rch op u j ∧ pv j = some s)
def okS (f : Nat) (op : Int32) (pv : Nat → Option Nat) (u sk : Int32) : Prop := ∀ s, bt sk s = true → s < 20 → (s = f ∨ ∃ j, rch op u j ∧ pv j = some s)
theorem rch_less {op u : Int32} {k : Nat} (hk : k < 20) {j : Nat} (h : rch op u j) : rch op (u &&& (bit k ^^^ -1)) j := ⟨h.1, h.2.1, by rw [b_drop (by omega), h.2.2]; rfl⟩
theorem okO_step {f : Nat} {op : Int32} {pv : Nat → Option Nat} {u sk : Int32} {O : Nat → Int32} {k s : Nat} (hk : k < 20) (hs20 : s < 20) (hO : okO f op pv u O) (hS : okS f op pv u sk) (hu : bt u k = true) (hs : bt sk s = true) : okO f op pv (u &&& (bit k ^^^ -1)) (upd O k (nI s)) := by
  intro i hi
  have up : ∀ {s : Nat}, (s = f ∨ ∃ j, rch op u j ∧ pv j = some s) → (s = f ∨ ∃ j, rch op (u &&& (bit k ^^^ -1)) j ∧ pv j = some s) := fun h => h.elim Or.inl (fun ⟨j, h1, h2⟩ => Or.inr ⟨j, rch_less hk h1, h2⟩)
  by_cases e : i = k
  · subst e
    exact ⟨s, hs20, pk_us, up (hS s hs hs20)⟩
  · obtain ⟨h1, h2, h3⟩ := hi
    rw [b_drop (by omega)] at h3
    have h3 : bt u i = false := by simpa [e] using h3
    obtain ⟨s', g1, g2, g3⟩ := hO i ⟨h1, h2, h3⟩
    exact ⟨s', g1, by rw [pk_un e]; exact g2, up g3⟩
theorem okS_less {f : Nat} {op : Int32} {pv : Nat → Option Nat} {u sk : Int32} {k : Nat} (hk : k < 20) (hS : okS f op pv u sk) : okS f op pv (u &&& (bit k ^^^ -1)) sk := fun s h1 h2 => (hS s h1 h2).elim Or.inl (fun ⟨j, g1, g2⟩ => Or.inr ⟨j, rch_less hk g1, g2⟩)
theorem okS_put {f : Nat} {op : Int32} {pv : Nat → Option Nat} {u rb : Int32} {k p : Nat} (hk : k < 20) (hp : p < 20) (ho : bt op k = true) (hpv : pv k = some p) (hS : okS f op pv u rb) : okS f op pv (u &&& (bit k ^^^ -1)) (rb ||| bit p) := by
  intro s h1 h2
  rw [b_put (by omega)] at h1
  by_cases e : s = p
  · subst e
    exact Or.inr ⟨k, ⟨hk, ho, by rw [b_drop (by omega)]; simp⟩, hpv⟩
  · exact okS_less hk hS s (by simpa [e] using h1) h2
/-- what the pairing needs, at the end of the search -/
theorem okO_pair {f : Nat} {op : Int32} {nx pv : Nat → Option Nat} {u : Int32} {O : Nat → Int32} (hO : okO f op pv u O) (hm : ∀ p j, pv j = some p → nx p = some j) (hf : nx f = none) : (∀ i, rch op u i → i < 20 ∧ O i = nI ((O i).toNatClampNeg) ∧ (O i).toNatClampNeg < 20) ∧ ∀ i, rch op u i → ∀ j, nx ((O i).toNatClampNeg) = some j → rch op u j := by
  refine ⟨fun i hi => ?_, fun i hi j hj => ?_⟩
  · obtain ⟨s, h1, h2, -⟩ := hO i hi
    rw [h2, nI_clamp (by omega)]
    exact ⟨hi.1, rfl, h1⟩
  · obtain ⟨s, h1, h2, h3⟩ := hO i hi
    rw [h2, nI_clamp (by omega)] at hj
    rcases h3 with rfl | ⟨j', g1, g2⟩
    · rw [hf] at hj; cases hj
    · have := hm s j' g2
      rw [this] at hj
      cases hj
      exact g1
/-- behind the search: the pairs and the origins -/
def fnF (nx pv : Nat → Option Nat) (r : Option Nat × Int32 × (Nat → Int32)) : (Nat → Option Nat) × (Nat → Option Nat) × (Nat → Int32) × Bool := match r with
  | (none, _, O') => (nx, pv, O', false)
  | (some k, _, O') => ((pa (fun i => (O' i).toNatClampNeg) 20 (some k) nx pv).1, (pa (fun i => (O' i).toNatClampNeg) 20 (some k) nx pv).2, O', true)
def fnE (bf : Nat → Int32) (nx pv : Nat → Option Nat) (O : Nat → Int32) (f : Nat) (op : Int32) : (Nat → Option Nat) × (Nat → Option Nat) × (Nat → Int32) × Bool := fnF nx pv (fnO bf pv 20 op (bit f) O)
set_option maxHeartbeats 4000000 in
set_option maxRecDepth 100000 in
 theorem c_findNext {G : GC} {B n : Nat} {h : HT} {o a : Nat} {nx pv : Nat → Option Nat} {O : Nat → Int32} {bf : Nat → Int32} (hb : h a = some (ia 20 bf)) (ha : a < o ∨ o + 4 ≤ a) (hp20 : ∀ j p, pv j = some p → p < 20) (hm : ∀ p j, pv j = some p → nx p = some j) {f : Nat} (hf20 : f < 20) (hf : nx f = none) (op : Int32) : CtJ G B M1_findNext [.ref (B + o), .int (nI f), .int op, .ref (B + a)] n (wA o 3 (cob B o) (CP nx pv O) h) 0 0 (eqP (some (.int (bI (fnE bf nx pv O f op).2.2.2))) n (wA o 3 (cob B o) (CP (fnE bf nx pv O f op).1 (fnE bf nx pv O f op).2.1 (fnE bf nx pv O f op).2.2.1) h)) := by
  have hbb : ∀ O, wA o 3 (cob B o) (CP nx pv O) h a = some (ia 20 bf) := fun O => (wA_n (by omega)).trans hb
  unfold CtJ
  refine jj_lv (lv' := [some (.ref (B + o)), some (.int (nI f)), some (.int op), some (.ref (B + a)), none, none, none, none, none, none]) rfl ?_
  refine jj_s (pc' := 1) rfl rfl ?_
  refine jj_s (pc' := 3) rfl rfl ?_
  refine jj_s (pc' := 4) rfl rfl ?_
  refine jj_s (pc' := 5) rfl rfl ?_
  refine jj_s (pc' := 6) rfl rfl ?_
  refine jj_s (pc' := 8) rfl rfl ?_
  refine jj_s (pc' := 9) rfl rfl ?_
  refine jj_s (pc' := 11) rfl rfl ?_
  refine jj_lv (lv' := [some (.ref (B + o)), some (.int (nI f)), some (.int op), some (.ref (B + a)), some (.int op), some (.int (bit f)), some (.int (nI (20 - 20))), none, none, none]) rfl ?_
  have L : ∀ m u sk O z1 z2 z3, m ≤ 20 → okO f op pv u O → okS f op pv u sk → (∀ j, bt u j = true → bt op j = true) → ∀ E : (Nat → Option Nat) × (Nat → Option Nat) × (Nat → Int32) × Bool, E = fnF nx pv (fnO bf pv m u sk O) → JJ X0 G B M1_findNext 11 [some (.ref (B + o)), some (.int (nI f)), some (.int op), some (.ref (B + a)), some (.int u), some (.int sk), some (.int (nI (20 - m))), z1, z2, z3] [] n (wA o 3 (cob B o) (CP nx pv O) h) 0 0 (eqP (some (.int (bI E.2.2.2))) n (wA o 3 (cob B o) (CP E.1 E.2.1 E.2.2.1) h)) := by
    intro m
    induction m with
    | zero =>
      intro u sk O z1 z2 z3 h0 hO hS hu E hE
      refine jj_s (pc' := 13) rfl rfl ?_
      refine jj_s (pc' := 15) rfl rfl ?_
      refine jj_icmp_ge 140 rfl rfl (fun c => ?_) (fun c => absurd (by decide) c)
      refine jj_s (pc' := 141) rfl rfl ?_
      exact jj_zret rfl rfl (Or.inl rfl) ⟨by rw [hE]; rfl, rfl, by rw [hE]; rfl⟩
    | succ m ihm =>
      intro u sk O z1 z2 z3 h0 hO hS hu E hE
      refine jj_s (pc' := 13) rfl rfl ?_
      refine jj_s (pc' := 15) rfl rfl ?_
      refine jj_geN (b := 20) 140 rfl rfl (by omega) (by omega) (fun c => absurd c (by omega)) (fun c => ?_)
      refine jj_s (pc' := 20) rfl rfl ?_
      refine jj_if_eq 140 rfl rfl (fun c1 => ?_) (fun c1 => ?_)
      · refine jj_s (pc' := 141) rfl rfl ?_
        rw [fnO, if_pos c1] at hE
        exact jj_zret rfl rfl (Or.inl rfl) ⟨by rw [hE]; rfl, rfl, by rw [hE]; rfl⟩
      · rw [fnO, if_neg c1] at hE
        refine jj_s (pc' := 24) rfl rfl ?_
        refine jj_s (pc' := 26) rfl rfl ?_
        refine jj_s (pc' := 27) rfl rfl ?_
        refine jj_s (pc' := 29) rfl rfl ?_
        have L2 : ∀ d k u rb O z3, k + d = 20 → okO f op pv u O → okS f op pv u sk → okS f op pv u rb → (∀ j, bt u j = true → bt op j = true) → E = fnF nx pv (fnG bf pv m (fnI bf pv sk d k u rb O)) → JJ X0 G B M1_findNext 29 [some (.ref (B + o)), some (.int (nI f)), some (.int op), some (.ref (B + a)), some (.int u), some (.int sk), some (.int (nI (20 - (m + 1)))), some (.int rb), some (.int (nI k)), z3] [] n (wA o 3 (cob B o) (CP nx pv O) h) 0 0 (eqP (some (.int (bI E.2.2.2))) n (wA o 3 (cob B o) (CP E.1 E.2.1 E.2.2.1) h)) := by
          intro d
          induction d with
          | zero =>
            intro k u rb O z3 hk hO hS hrb hu hE
            have hk : k = 20 := by omega
            subst hk
            refine jj_s (pc' := 31) rfl rfl ?_
            refine jj_s (pc' := 33) rfl rfl ?_
            refine jj_icmp_ge 130 rfl rfl (fun c => ?_) (fun c => absurd (by decide) c)
            refine jj_s (pc' := 132) rfl rfl ?_
            refine jj_s (pc' := 134) rfl rfl ?_
            first | refine jj_inc rfl rfl ?_ | refine jj_s (pc' := 137) rfl rfl ?_
            refine jj_s (pc' := 11) rfl rfl ?_
            refine jj_lv ?_ (ihm u rb O (some (.int rb)) (some (.int (nI 20))) z3 (by omega) hO hrb hu E hE)
            rw [show 20 - (m + 1) + 1 = 20 - m by omega]; rfl
          | succ d ih =>
            intro k u rb O z3 hk hO hS hrb hu hE
            have skip : ∀ z3, fnI bf pv sk (d + 1) k u rb O = fnI bf pv sk d (k + 1) u rb O → JJ X0 G B M1_findNext 124 [some (.ref (B + o)), some (.int (nI f)), some (.int op), some (.ref (B + a)), some (.int u), some (.int sk), some (.int (nI (20 - (m + 1)))), some (.int rb), some (.int (nI k)), z3] [] n (wA o 3 (cob B o) (CP nx pv O) h) 0 0 (eqP (some (.int (bI E.2.2.2))) n (wA o 3 (cob B o) (CP E.1 E.2.1 E.2.2.1) h)) := by
              intro z3 hs
              rw [hs] at hE
              first | refine jj_inc rfl rfl ?_ | refine jj_s (pc' := 127) rfl rfl ?_
              refine jj_s (pc' := 29) rfl rfl ?_
              exact ih (k + 1) u rb O z3 (by omega) hO hS hrb hu hE
            refine jj_s (pc' := 31) rfl rfl ?_
            refine jj_s (pc' := 33) rfl rfl ?_
            refine jj_geN (b := 20) 130 rfl rfl (by omega) (by omega) (fun c => absurd c (by omega)) (fun c => ?_)
            refine jj_s (pc' := 38) rfl rfl ?_
            refine jj_s (pc' := 40) rfl rfl ?_
            refine jj_t2 rfl rfl rfl rfl rfl (c_has (by omega)) ?_
            refine jj_zT 59 rfl rfl (fun c2 => ?_) (fun c2 => ?_)
            · refine jj_s (pc' := 61) rfl rfl ?_
              refine jj_s (pc' := 63) rfl rfl ?_
              refine jj_s (pc' := 65) rfl rfl ?_
              refine jj_s (pc' := 67) rfl rfl ?_
              refine jj_icmp_eq 124 rfl rfl (fun c3 => ?_) (fun c3 => absurd rfl c3)
              exact skip _ (by rw [fnI, if_neg (by rw [c2]; decide)])
            · refine jj_s (pc' := 48) rfl rfl ?_
              refine jj_s (pc' := 49) rfl rfl ?_
              refine jj_s (pc' := 51) rfl rfl ?_
              refine jj_ialdN rfl (hbb O) (by omega) rfl ?_
              refine jj_s (pc' := 53) rfl rfl ?_
              refine jj_t1 rfl rfl rfl rfl rfl (c_lowestOf _) ?_
              refine jj_s (pc' := 61) rfl rfl ?_
              refine jj_s (pc' := 63) rfl rfl ?_
              refine jj_s (pc' := 65) rfl rfl ?_
              refine jj_s (pc' := 67) rfl rfl ?_
              cases hlo : lo (sk &&& bf k) with
              | none =>
                refine jj_icmp_eq 124 rfl rfl (fun c3 => ?_) (fun c3 => absurd rfl c3)
                exact skip _ (by rw [fnI, if_pos c2, hlo])
              | some s =>
                obtain ⟨s1, s2⟩ := lo_some hlo
                rw [b_and, Bool.and_eq_true] at s2
                refine jj_icmp_eq 124 rfl rfl (fun c3 => absurd c3 (enc_ne (by omega))) (fun c3 => ?_)
                refine jj_s (pc' := 72) rfl rfl ?_
                refine jj_s (pc' := 73) rfl rfl ?_
                refine jj_s (pc' := 75) rfl rfl ?_
                refine jj_s (pc' := 76) rfl rfl ?_
                refine jj_s (pc' := 77) rfl rfl ?_
                refine jj_s (pc' := 78) rfl rfl ?_
                refine jj_s (pc' := 79) rfl rfl ?_
                refine jj_s (pc' := 81) rfl rfl ?_
                refine jj_s (pc' := 82) rfl rfl ?_
                refine jj_g rfl rfl wA_o rfl ?_
                refine jj_s (pc' := 87) rfl rfl ?_
                refine jj_s (pc' := 89) rfl rfl ?_
                refine jj_ast1 rfl (by decide) (by first | assumption | omega) ?_
                refine jj_h (h' := wA o 3 (cob B o) (CP nx pv (upd O k (nI s))) h) (by rw [← CP_2]; rfl) ?_
                refine jj_lv (lv' := [some (.ref (B + o)), some (.int (nI f)), some (.int op), some (.ref (B + a)), some (.int (u &&& (bit k ^^^ -1))), some (.int sk), some (.int (nI (20 - (m + 1)))), some (.int rb), some (.int (nI k)), some (.int (nI s))]) rfl ?_
                have hO' := okO_step (k := k) (by omega) s1 hO hS c2 s2.1
                have hu' : ∀ j, bt (u &&& (bit k ^^^ -1)) j = true → bt op j = true := fun j hj => by rw [b_drop (by omega)] at hj; exact hu j (by simp at hj; exact hj.1)
                refine jj_s (pc' := 91) rfl rfl ?_
                refine jj_g rfl rfl wA_o rfl ?_
                refine jj_s (pc' := 96) rfl rfl ?_
                refine jj_ald1 rfl (by decide) (by first | assumption | omega) ?_
                refine jj_s (pc' := 99) rfl rfl ?_
                refine jj_st (st' := [.int (-7), .int (enc (pv k))]) rfl ?_
                cases hpv : pv k with
                | none =>
                  refine jj_icmp_ne 110 rfl rfl (fun c4 => absurd rfl c4) (fun c4 => ?_)
                  have e : fnI bf pv sk (d + 1) k u rb O = .inr (k, u &&& (bit k ^^^ -1), upd O k (nI s)) := by rw [fnI, if_pos c2, hlo]; dsimp only; rw [hpv]
                  rw [e] at hE
                  obtain ⟨r1, r2⟩ := okO_pair hO' hm hf
                  refine jj_s (pc' := 103) rfl rfl ?_
                  refine jj_s (pc' := 105) rfl rfl ?_
                  refine jj_w1 rfl rfl rfl wA_o rfl rfl (c_pairAlong (fun i => ((upd O k (nI s)) i).toNatClampNeg) (rch op (u &&& (bit k ^^^ -1))) r1 r2 ⟨by omega, hu k c2, by rw [b_drop (by omega)]; simp⟩) ?_
                  refine jj_s (pc' := 109) rfl rfl ?_
                  exact jj_zret rfl rfl (Or.inr rfl) ⟨by rw [hE]; rfl, rfl, by rw [hE]; rfl⟩
                | some p =>
                  refine jj_icmp_ne 110 rfl rfl (fun c4 => ?_) (fun c4 => absurd c4 (enc_ne (by have := hp20 k p hpv; omega)))
                  have e : fnI bf pv sk (d + 1) k u rb O = fnI bf pv sk d (k + 1) (u &&& (bit k ^^^ -1)) (rb ||| bit p) (upd O k (nI s)) := by rw [fnI, if_pos c2, hlo]; dsimp only; rw [hpv]
                  rw [e] at hE
                  refine jj_s (pc' := 112) rfl rfl ?_
                  refine jj_s (pc' := 113) rfl rfl ?_
                  refine jj_s (pc' := 114) rfl rfl ?_
                  refine jj_g rfl rfl wA_o rfl ?_
                  refine jj_s (pc' := 119) rfl rfl ?_
                  refine jj_ald1 rfl (by decide) (by first | assumption | omega) ?_
                  refine jj_s (pc' := 121) rfl rfl ?_
                  refine jj_s (pc' := 122) rfl rfl ?_
                  refine jj_s (pc' := 124) rfl rfl ?_
                  refine jj_lv (lv' := [some (.ref (B + o)), some (.int (nI f)), some (.int op), some (.ref (B + a)), some (.int (u &&& (bit k ^^^ -1))), some (.int sk), some (.int (nI (20 - (m + 1)))), some (.int (rb ||| bit p)), some (.int (nI k)), some (.int (nI s))]) (by rw [show bit p = (1 : Int32) <<< (enc (pv k) &&& 31) by rw [hpv]; rfl]; rfl) ?_
                  first | refine jj_inc rfl rfl ?_ | refine jj_s (pc' := 127) rfl rfl ?_
                  refine jj_s (pc' := 29) rfl rfl ?_
                  exact ih (k + 1) _ _ _ _ (by omega) hO' (okS_less (by omega) hS) (okS_put (by omega) (hp20 k p hpv) (hu k c2) hpv hrb) hu' hE
        exact L2 20 0 u 0 O z3 (by omega) hO hS (fun s hs => by rw [b_0] at hs; cases hs) hu hE
  exact L 20 op (bit f) O none none none (by omega) (fun i hi => absurd (hi.2.1.symm.trans hi.2.2) (by decide)) (fun s hs _ => Or.inl (by rw [bt_bit (by omega)] at hs; simpa using hs)) (fun j hj => hj) (fnE bf nx pv O f op) rfl
