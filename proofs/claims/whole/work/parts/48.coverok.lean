/-! the class's search -/
def Xc (op : Int32) (bf : Nat → Int32) (a b : Nat) : Bool := bt op a && (bt op b && bt (bf b) a)
def A1s (X : Nat → Nat → Bool) (op : Int32) (f : Nat) (pv : Nat → Option Nat) (t : Nat) (u : Int32) (O : Nat → Int32) (rho : Nat → Nat) : Prop := ∀ i, rch op u i → ∃ s, s < 20 ∧ O i = nI s ∧ X s i = true ∧ ((s = f ∧ rho i = 0) ∨ ∃ j, rch op u j ∧ rho j + 1 = rho i ∧ pv j = some s) ∧ rho i ≤ t
def SI (X : Nat → Nat → Bool) (op : Int32) (f : Nat) (pv : Nat → Option Nat) (sk : Int32) (t k : Nat) (u rb : Int32) (O : Nat → Int32) (rho : Nat → Nat) : Prop :=
  A1s X op f pv t u O rho ∧ (∀ i, rch op u i → pv i ≠ none) ∧ (∀ s, bt sk s = true ↔ ((t = 0 ∧ s = f) ∨ ∃ j, rch op u j ∧ rho j + 1 = t ∧ pv j = some s)) ∧ (∀ a b, ((a = f ∧ 0 < t) ∨ ∃ j, rch op u j ∧ rho j + 1 < t ∧ pv j = some a) → X a b = true → rch op u b) ∧ (∀ s, bt rb s = true ↔ ∃ j, rch op u j ∧ rho j = t ∧ pv j = some s) ∧ (∀ a b, bt sk a = true → b < k → X a b = true → rch op u b) ∧ ∀ j, bt u j = true → bt op j = true
section
variable {op : Int32} {bf : Nat → Int32} {f : Nat} {nx pv : Nat → Option Nat}
theorem Xc_t {a b : Nat} : Xc op bf a b = true ↔ (bt op a = true ∧ bt op b = true ∧ bt (bf b) a = true) := by
  unfold Xc
  rw [Bool.and_eq_true, Bool.and_eq_true]
theorem rch_put {u : Int32} {k : Nat} (hk : k < 20) (hu : bt u k = true) (ho : bt op k = true) (i : Nat) : rch op (u &&& (bit k ^^^ -1)) i ↔ (rch op u i ∨ i = k) := by
  unfold rch
  rw [b_drop (by omega)]
  constructor
  · rintro ⟨h1, h2, h3⟩
    by_cases e : i = k
    · exact Or.inr e
    · left
      rw [decide_eq_false e] at h3
      exact ⟨h1, h2, by simpa using h3⟩
  · rintro (⟨h1, h2, h3⟩ | rfl)
    · exact ⟨h1, h2, by rw [h3]; rfl⟩
    · exact ⟨hk, ho, by rw [decide_eq_true (rfl : i = i)]; simp⟩
theorem A1_put {t : Nat} {u : Int32} {O : Nat → Int32} {rho : Nat → Nat} {k s : Nat} (hk : k < 20) (hu : bt u k = true) (ho : bt op k = true) (h : A1s (Xc op bf) op f pv t u O rho) (hs : s < 20) (hX : Xc op bf s k = true) (hA3 : (t = 0 ∧ s = f) ∨ ∃ j, rch op u j ∧ rho j + 1 = t ∧ pv j = some s) : A1s (Xc op bf) op f pv t (u &&& (bit k ^^^ -1)) (upd O k (nI s)) (va_up rho k t) := by
  have old : ∀ j, rch op u j → j ≠ k := fun j hj q => by rw [q] at hj; rw [hj.2.2] at hu; cases hu
  intro i hi
  rcases (rch_put hk hu ho i).mp hi with h1 | rfl
  · obtain ⟨s', a1, a2, a3, a4, a5⟩ := h i h1
    have hik := old i h1
    refine ⟨s', a1, by rw [pk_un hik]; exact a2, a3, ?_, by rw [va_up_n hik]; exact a5⟩
    rw [va_up_n hik]
    rcases a4 with q | ⟨j, j1, j2, j3⟩
    · exact Or.inl q
    · exact Or.inr ⟨j, (rch_put hk hu ho j).mpr (Or.inl j1), by rw [va_up_n (old j j1)]; exact j2, j3⟩
  · refine ⟨s, hs, pk_us, hX, ?_, by rw [va_up_s]; exact Nat.le_refl _⟩
    rw [va_up_s]
    rcases hA3 with q | ⟨j, j1, j2, j3⟩
    · exact Or.inl ⟨q.2, q.1⟩
    · exact Or.inr ⟨j, (rch_put hk hu ho j).mpr (Or.inl j1), by rw [va_up_n (old j j1)]; exact j2, j3⟩
theorem fnI_at (hop : ∀ i, bt op i = true → i < 20) (hM : Mt (Xc op bf) nx pv) (hfo : bt op f = true) {sk : Int32} {t : Nat} : ∀ d k u rb O rho, k + d = 20 → SI (Xc op bf) op f pv sk t k u rb O rho → (∀ u' rb' O', fnI bf pv sk d k u rb O = .inl (u', rb', O') → ∃ rho', SI (Xc op bf) op f pv sk t 20 u' rb' O' rho') ∧ (∀ l u' O', fnI bf pv sk d k u rb O = .inr (l, u', O') → ∃ rho', A1s (Xc op bf) op f pv t u' O' rho' ∧ rch op u' l ∧ pv l = none) := by
  intro d
  induction d with
  | zero =>
    intro k u rb O rho hk h
    have : k = 20 := by omega
    subst this
    exact ⟨fun u' rb' O' e => by cases e; exact ⟨rho, h⟩, fun l u' O' e => by cases e⟩
  | succ d ih =>
    intro k u rb O rho hk h
    have h' := h
    obtain ⟨a1, a2, a3, a4, a5, a6, a7⟩ := h
    cases hc : (if bt u k = true then lo (sk &&& bf k) else none) with
    | none =>
      have e : fnI bf pv sk (d + 1) k u rb O = fnI bf pv sk d (k + 1) u rb O := by rw [fnI, hc]
      rw [e]
      refine ih (k + 1) u rb O rho (by omega) ⟨a1, a2, a3, a4, a5, fun a b ha hb hX => ?_, a7⟩
      by_cases eb : b = k
      · subst eb
        obtain ⟨x1, x2, x3⟩ := Xc_t.mp hX
        cases hub : bt u b with
        | false => exact ⟨by omega, x2, hub⟩
        | true =>
          rw [if_pos hub] at hc
          have := lo_none hc a (hop a x1)
          rw [b_and, ha, x3] at this
          cases this
      · exact a6 a b ha (by omega) hX
    | some s =>
      have hub : bt u k = true := by
        cases hub : bt u k with
        | true => rfl
        | false => rw [hub] at hc; cases hc
      rw [if_pos hub] at hc
      obtain ⟨l1, l2⟩ := lo_some hc
      rw [b_and, Bool.and_eq_true] at l2
      have hok := a7 k hub
      have hA3 := (a3 s).mp l2.1
      have hos : bt op s = true := by
        rcases hA3 with q | ⟨j, _, _, j3⟩
        · rw [q.2]; exact hfo
        · exact (Xc_t.mp (hM.1 s j j3).1).1
      have hX : Xc op bf s k = true := Xc_t.mpr ⟨hos, hok, l2.2⟩
      have hk20 : k < 20 := by omega
      have n1 := A1_put hk20 hub hok a1 l1 hX hA3
      have old : ∀ j, rch op u j → j ≠ k := fun j hj q => by rw [q] at hj; rw [hj.2.2] at hub; cases hub
      cases hp : pv k with
      | none =>
        have e : fnI bf pv sk (d + 1) k u rb O = .inr (k, u &&& (bit k ^^^ -1), upd O k (nI s)) := by rw [fnI, if_pos hub, hc, hp]
        rw [e]
        refine ⟨fun u' rb' O' e => (by cases e), fun l u' O' e => ?_⟩
        cases e
        exact ⟨_, n1, (rch_put hk20 hub hok k).mpr (Or.inr rfl), hp⟩
      | some p =>
        have e : fnI bf pv sk (d + 1) k u rb O = fnI bf pv sk d (k + 1) (u &&& (bit k ^^^ -1)) (rb ||| bit p) (upd O k (nI s)) := by rw [fnI, if_pos hub, hc, hp]
        have hp20 : p < 20 := hop p (Xc_t.mp (hM.1 p k hp).1).1
        rw [e]
        refine ih (k + 1) _ _ _ (va_up rho k t) (by omega) ⟨n1, fun i hi => ?_, fun s' => ?_, fun a b ha hX' => ?_, fun s' => ?_, fun a b ha hb hX' => ?_, fun j hj => ?_⟩
        · rcases (rch_put hk20 hub hok i).mp hi with q | rfl
          · exact a2 i q
          · rw [hp]; simp
        · rw [a3]
          refine or_congr Iff.rfl ⟨fun ⟨j, j1, j2, j3⟩ => ⟨j, (rch_put hk20 hub hok j).mpr (Or.inl j1), by rw [va_up_n (old j j1)]; exact j2, j3⟩, fun ⟨j, j1, j2, j3⟩ => ?_⟩
          rcases (rch_put hk20 hub hok j).mp j1 with q | rfl
          · rw [va_up_n (old j q)] at j2; exact ⟨j, q, j2, j3⟩
          · rw [va_up_s] at j2; omega
        · refine (rch_put hk20 hub hok b).mpr (Or.inl (a4 a b ?_ hX'))
          rcases ha with q | ⟨j, j1, j2, j3⟩
          · exact Or.inl q
          · rcases (rch_put hk20 hub hok j).mp j1 with q | rfl
            · rw [va_up_n (old j q)] at j2; exact Or.inr ⟨j, q, j2, j3⟩
            · rw [va_up_s] at j2; omega
        · rw [b_put (by omega), Bool.or_eq_true, decide_eq_true_eq, a5]
          constructor
          · rintro (⟨j, j1, j2, j3⟩ | rfl)
            · exact ⟨j, (rch_put hk20 hub hok j).mpr (Or.inl j1), by rw [va_up_n (old j j1)]; exact j2, j3⟩
            · exact ⟨k, (rch_put hk20 hub hok k).mpr (Or.inr rfl), by rw [va_up_s], hp⟩
          · rintro ⟨j, j1, j2, j3⟩
            rcases (rch_put hk20 hub hok j).mp j1 with q | rfl
            · rw [va_up_n (old j q)] at j2; exact Or.inl ⟨j, q, j2, j3⟩
            · rw [hp] at j3; cases j3; exact Or.inr rfl
        · by_cases eb : b = k
          · subst eb; exact (rch_put hk20 hub hok b).mpr (Or.inr rfl)
          · exact (rch_put hk20 hub hok b).mpr (Or.inl (a6 a b ha (by omega) hX'))
        · rw [b_drop (by omega), Bool.and_eq_true] at hj
          exact a7 j hj.1
/-- at most twenty turns -/
theorem SI_20 (hop : ∀ i, bt op i = true → i < 20) (hM : Mt (Xc op bf) nx pv) (hfo : bt op f = true) (hf : nx f = none) {sk : Int32} {u : Int32} {O : Nat → Int32} {rho : Nat → Nat} (h : SI (Xc op bf) op f pv sk 20 0 u 0 O rho) : sk = 0 := by
  refine Classical.byContradiction fun hne => ?_
  obtain ⟨s, _, hs⟩ := b_ne0.mp hne
  obtain ⟨a1, a2, a3, a4, a5, a6, a7⟩ := h
  obtain ⟨j0, j1, j2, j3⟩ := ((a3 s).mp hs).resolve_left (by omega)
  have chain : ∀ d, d ≤ 19 → ∃ j, rch op u j ∧ rho j = 19 - d := by
    intro d
    induction d with
    | zero => intro _; exact ⟨j0, j1, by omega⟩
    | succ d ih =>
      intro hd
      obtain ⟨j, g1, g2⟩ := ih (by omega)
      obtain ⟨s', _, _, _, q, _⟩ := a1 j g1
      rcases q with q | ⟨j', q1, q2, _⟩
      · omega
      · exact ⟨j', q1, by omega⟩
  obtain ⟨p, hp⟩ := Classical.axiomOfChoice (fun r => show ∃ p, r < 20 → ∃ j, rho j = r ∧ pv j = some p from by
    by_cases hr : r < 20
    · obtain ⟨j, g1, g2⟩ := chain (19 - r) (by omega)
      cases hpj : pv j with
      | none => exact absurd hpj (a2 j g1)
      | some p => exact ⟨p, fun _ => ⟨j, by omega, hpj⟩⟩
    · exact ⟨0, fun q => absurd q hr⟩)
  obtain ⟨x, y, h1, h2, h3⟩ := pigeon 20 (fun r => if r < 20 then p r else f) (fun r _ => by
    split
    next hr =>
      obtain ⟨j, _, q⟩ := hp r hr
      exact hop _ (Xc_t.mp (hM.1 _ _ q).1).1
    next => exact hop f hfo)
  rw [if_pos (show x < 20 by omega)] at h3
  obtain ⟨jx, x1, x2⟩ := hp x (by omega)
  have ex := (hM.1 _ _ x2).2
  by_cases hy : y < 20
  · rw [if_pos hy] at h3
    obtain ⟨jy, y1, y2⟩ := hp y hy
    have ey := (hM.1 _ _ y2).2
    rw [← h3, ex] at ey
    cases ey
    omega
  · rw [if_neg hy] at h3
    rw [h3, hf] at ex
    cases ex
theorem fnO_at (hop : ∀ i, bt op i = true → i < 20) (hM : Mt (Xc op bf) nx pv) (hfo : bt op f = true) (hf : nx f = none) : ∀ m t u sk O rho, t + m = 20 → SI (Xc op bf) op f pv sk t 0 u 0 O rho → ((fnO bf pv m u sk O).1 = none → ¬ Cv (Xc op bf) (fun a => nx a ≠ none ∨ a = f)) ∧ ∀ l, (fnO bf pv m u sk O).1 = some l → ∃ rho', A1s (Xc op bf) op f pv 19 (fnO bf pv m u sk O).2.1 (fnO bf pv m u sk O).2.2 rho' ∧ rch op (fnO bf pv m u sk O).2.1 l ∧ pv l = none := by
  have closed : ∀ t u O rho, SI (Xc op bf) op f pv 0 t 0 u 0 O rho → ¬ Cv (Xc op bf) (fun a => nx a ≠ none ∨ a = f) := by
    intro t u O rho h
    obtain ⟨a1, a2, a3, a4, a5, a6, a7⟩ := h
    have n0 : ∀ s, ¬ ((t = 0 ∧ s = f) ∨ ∃ j, rch op u j ∧ rho j + 1 = t ∧ pv j = some s) := fun s q => by have := (a3 s).mpr q; rw [b_0] at this; cases this
    have n1 : ∀ s, ¬ ∃ j, rch op u j ∧ rho j = t ∧ pv j = some s := fun s q => by have := (a5 s).mpr q; rw [b_0] at this; cases this
    refine hall (Rd := rch op u) (fun a b hX => ⟨hop a (Xc_t.mp hX).1, hop b (Xc_t.mp hX).2.1⟩) (hop f hfo) hM hf a2 (fun a b ha hX => a4 a b ?_ hX)
    rcases ha with q | ⟨j, j1, j2⟩
    · exact Or.inl ⟨q, Nat.pos_of_ne_zero (fun z => n0 a (Or.inl ⟨z, q⟩))⟩
    · have h1 : rho j ≠ t := fun z => n1 a ⟨j, j1, z, j2⟩
      have h2 : rho j + 1 ≠ t := fun z => n0 a (Or.inr ⟨j, j1, z, j2⟩)
      obtain ⟨_, _, _, _, _, h3⟩ := a1 j j1
      exact Or.inr ⟨j, j1, by omega, j2⟩
  intro m
  induction m with
  | zero =>
    intro t u sk O rho ht h
    have : t = 20 := by omega
    subst this
    have hsk := SI_20 hop hM hfo hf h
    subst hsk
    exact ⟨fun _ => closed _ _ _ _ h, fun l e => by cases e⟩
  | succ m ih =>
    intro t u sk O rho ht h
    by_cases hsk : sk = 0
    · subst hsk
      have e : fnO bf pv (m + 1) u 0 O = (none, u, O) := by rw [fnO, if_pos rfl]
      rw [e]
      exact ⟨fun _ => closed _ _ _ _ h, fun l e => by cases e⟩
    · obtain ⟨i1, i2⟩ := fnI_at hop hM hfo 20 0 u 0 O rho (by omega) h
      cases hr : fnI bf pv sk 20 0 u 0 O with
      | inl r =>
        obtain ⟨u', rb', O'⟩ := r
        have e : fnO bf pv (m + 1) u sk O = fnO bf pv m u' rb' O' := by rw [fnO, if_neg hsk, hr]; rfl
        rw [e]
        obtain ⟨rho', b1, b2, b3, b4, b5, b6, b7⟩ := i1 u' rb' O' hr
        refine ih (t + 1) u' rb' O' rho' (by omega) ⟨fun i hi => ?_, b2, fun s => ?_, fun a b ha hX => ?_, fun s => ?_, fun a b _ hb => by omega, b7⟩
        · obtain ⟨s, c1, c2, c3, c4, c5⟩ := b1 i hi
          exact ⟨s, c1, c2, c3, c4, by omega⟩
        · rw [b5]
          constructor
          · rintro ⟨j, j1, j2, j3⟩; exact Or.inr ⟨j, j1, by omega, j3⟩
          · rintro (q | ⟨j, j1, j2, j3⟩)
            · omega
            · exact ⟨j, j1, by omega, j3⟩
        · have hb20 := hop b (Xc_t.mp hX).2.1
          rcases ha with ⟨q1, q2⟩ | ⟨j, j1, j2, j3⟩
          · by_cases ht0 : t = 0
            · exact b6 a b ((b3 a).mpr (Or.inl ⟨ht0, q1⟩)) hb20 hX
            · exact b4 a b (Or.inl ⟨q1, by omega⟩) hX
          · by_cases hj : rho' j + 1 = t
            · exact b6 a b ((b3 a).mpr (Or.inr ⟨j, j1, hj, j3⟩)) hb20 hX
            · exact b4 a b (Or.inr ⟨j, j1, by omega, j3⟩) hX
        · rw [b_0]
          refine ⟨fun q => (by cases q), fun ⟨j, j1, j2, _⟩ => ?_⟩
          obtain ⟨_, _, _, _, _, q⟩ := b1 j j1
          omega
      | inr r =>
        obtain ⟨l, u', O'⟩ := r
        have e : fnO bf pv (m + 1) u sk O = (some l, u', O') := by rw [fnO, if_neg hsk, hr]; rfl
        rw [e]
        refine ⟨fun q => (by cases q), fun l' q => ?_⟩
        cases q
        obtain ⟨rho', c1, c2, c3⟩ := i2 l u' O' hr
        refine ⟨rho', fun i hi => ?_, c2, c3⟩
        obtain ⟨s, d1, d2, d3, d4, d5⟩ := c1 i hi
        exact ⟨s, d1, d2, d3, d4, by omega⟩
theorem fnE_at (hop : ∀ i, bt op i = true → i < 20) (hM : Mt (Xc op bf) nx pv) (hfo : bt op f = true) (hf : nx f = none) (O : Nat → Int32) : ((fnE bf nx pv O f op).2.2.2 = true → Mt (Xc op bf) (fnE bf nx pv O f op).1 (fnE bf nx pv O f op).2.1 ∧ ∀ a, (fnE bf nx pv O f op).1 a ≠ none ↔ (nx a ≠ none ∨ a = f)) ∧ ((fnE bf nx pv O f op).2.2.2 = false → (fnE bf nx pv O f op).1 = nx ∧ (fnE bf nx pv O f op).2.1 = pv ∧ ¬ Cv (Xc op bf) (fun a => nx a ≠ none ∨ a = f)) := by
  have none0 : ∀ i, ¬ rch op op i := fun i h => by have := h.2.1; rw [h.2.2] at this; cases this
  have hf20 := hop f hfo
  obtain ⟨h1, h2⟩ := fnO_at hop hM hfo hf 20 0 op (bit f) O (fun _ => 0) (by omega) ⟨fun i hi => absurd hi (none0 i), fun i hi => absurd hi (none0 i), fun s => by
      rw [bt_bit (by omega), decide_eq_true_eq]
      exact ⟨fun q => Or.inl ⟨rfl, q⟩, fun q => q.elim (fun z => z.2) (fun ⟨j, j1, _⟩ => absurd j1 (none0 j))⟩, fun a b ha => by
      rcases ha with q | ⟨j, j1, _⟩
      · omega
      · exact absurd j1 (none0 j), fun s => by
      rw [b_0]
      exact ⟨fun q => (by cases q), fun ⟨j, j1, _⟩ => absurd j1 (none0 j)⟩, fun a b _ hb => by omega, fun j hj => hj⟩
  unfold fnE
  cases hr : fnO bf pv 20 op (bit f) O with
  | mk r ru =>
    obtain ⟨u', O'⟩ := ru
    rw [hr] at h1 h2
    cases r with
    | none => exact ⟨fun q => (by cases q), fun _ => ⟨rfl, rfl, h1 rfl⟩⟩
    | some l =>
      refine ⟨fun _ => ?_, fun q => by cases q⟩
      obtain ⟨rho, c1, c2, c3⟩ := h2 l rfl
      have hlr : rho l < 20 := by obtain ⟨_, _, _, _, _, q⟩ := c1 l c2; omega
      refine pa_found (Rd := rch op u') (rho := rho) hM hf (fun i hi => ?_) c2 hlr c3
      obtain ⟨s, d1, d2, d3, d4, d5⟩ := c1 i hi
      have d2 : O' i = nI s := d2
      have e : (O' i).toNatClampNeg = s := by rw [d2]; exact nI_clamp (by omega)
      rw [e]
      refine ⟨d3, ?_⟩
      rcases d4 with q | ⟨j, j1, j2, j3⟩
      · exact Or.inl q.1
      · exact Or.inr ⟨j, j1, by omega, j3⟩
theorem cvK_at (hop : ∀ i, bt op i = true → i < 20) (O : Nat → Int32) : ∀ k, Mt (Xc op bf) (cvK bf op O k).1 (cvK bf op O k).2.1 ∧ (∀ a, (cvK bf op O k).1 a ≠ none ↔ Dk (Xc op bf) (bt op) k a) ∧ (cvK bf op O k).2.2.2 = cn (scB (Xc op bf) (bt op)) k := by
  intro k
  induction k with
  | zero => exact ⟨⟨fun a b h => (by cases h), fun a b h => (by cases h)⟩, fun a => ⟨fun q => absurd rfl q, fun q => q.elim⟩, rfl⟩
  | succ k ih =>
    obtain ⟨i1, i2, i3⟩ := ih
    cases ho : bt op k with
    | false =>
      have e : cvK bf op O (k + 1) = cvK bf op O k := by rw [cvK, if_neg (by rw [ho]; decide)]
      obtain ⟨d1, d2⟩ := Dk_no (X := Xc op bf) ho
      rw [e]
      exact ⟨i1, fun a => (i2 a).trans (d1 a).symm, by rw [i3, cn, if_neg (by rw [d2]; decide)]; rfl⟩
    | true =>
      have e : cvK bf op O (k + 1) = ((fnE bf (cvK bf op O k).1 (cvK bf op O k).2.1 (cvK bf op O k).2.2.1 k op).1, (fnE bf (cvK bf op O k).1 (cvK bf op O k).2.1 (cvK bf op O k).2.2.1 k op).2.1, (fnE bf (cvK bf op O k).1 (cvK bf op O k).2.1 (cvK bf op O k).2.2.1 k op).2.2.1, (cvK bf op O k).2.2.2 + (if (fnE bf (cvK bf op O k).1 (cvK bf op O k).2.1 (cvK bf op O k).2.2.1 k op).2.2.2 = true then 1 else 0)) := by rw [cvK, if_pos ho]
      have hnk : (cvK bf op O k).1 k = none := by
        refine Classical.byContradiction fun q => ?_
        have := Dk_lt k k ((i2 k).mp q)
        omega
      obtain ⟨f1, f2⟩ := fnE_at hop i1 ho hnk (cvK bf op O k).2.2.1
      rw [e]
      generalize hE : fnE bf (cvK bf op O k).1 (cvK bf op O k).2.1 (cvK bf op O k).2.2.1 k op = E at f1 f2 ⊢
      obtain ⟨s1, s2⟩ := Dk_step (X := Xc op bf) (pv' := E.2.1) ho i2 E.2.2.2 f1 (fun q => ⟨(f2 q).1, (f2 q).2.2⟩)
      refine ⟨?_, s1, ?_⟩
      · cases hb : E.2.2.2 with
        | true => exact (f1 hb).1
        | false => rw [show E.1 = _ from (f2 hb).1, show E.2.1 = _ from (f2 hb).2.1]; exact i1
      · show (cvK bf op O k).2.2.2 + (if E.2.2.2 = true then 1 else 0) = _
        rw [i3, cn, s2]
end
theorem Xc_cong {op : Int32} {bf bf' : Nat → Int32} (h : ∀ i, bt op i = true → bf i = bf' i) : Xc op bf = Xc op bf' := by
  funext a b
  unfold Xc
  cases hb : bt op b with
  | false => simp
  | true => rw [h b hb]
/-- what the class's width asks -/
theorem width_ok {op : Int32} {bf : Nat → Int32} (hop : ∀ i, bt op i = true → i < 20) (b2 O : Nat → Int32) (h : ∀ i, bt op i = true → b2 i = bf i) : (cvK b2 op O 20).2.2.2 = cn (scB (Xc op bf) (bt op)) 20 ∧ ∀ k, k < 20 → bt op k = true → (∀ j p, (cvK b2 op O k).2.1 j = some p → p < 20) ∧ (∀ p j, (cvK b2 op O k).2.1 j = some p → (cvK b2 op O k).1 p = some j) ∧ (cvK b2 op O k).1 k = none := by
  refine ⟨by rw [← Xc_cong h]; exact (cvK_at hop O 20).2.2, fun k hk ho => ?_⟩
  obtain ⟨i1, i2, i3⟩ := cvK_at (bf := b2) hop O k
  refine ⟨fun j p q => hop p (Xc_t.mp (i1.1 p j q).1).1, fun p j q => (i1.1 p j q).2, ?_⟩
  refine Classical.byContradiction fun q => ?_
  have := Dk_lt k k ((i2 k).mp q)
  omega
